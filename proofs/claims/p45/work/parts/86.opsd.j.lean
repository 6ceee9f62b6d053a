/-! JOINED: 86.opsd, 87.opse, 88.opsf, 89.opsg, 89h.opsh, 89i.opsi, 89j.opsj, 89k.opsk, 89l.opsl -/
section
/-! CALLS that keep the relation: image, back, body, keep, row (written by wip/p1/86.opsd.py) -/
section OD2
variable {L : Nat} {xs : Nat → Int} {d : Nat} {v w : Nat → Nat → Int} {k n : Nat}
theorem lpr_img2 : qG L xs (d + 1) CX12_image 33 [(2, 63), (0, 0)] [] (qS v) = some (some (0, v 63 33), qS (pm_up (pm_up (pm_up (pm_up v 83 0 (v 63 33)) 83 1 (v 63 34)) 83 2 (v 63 35)) 83 3 (v 63 32))) := by
  simp (disch := omega) only [b_X12_image_33, b_X12_image_38, b_X12_image_48, b_X12_image_49, b_X12_image_55, e_X12_led, b_X12_led_0_v0, b_X12_led_0_v1, b_X12_led_0_v2, b_X12_led_0_v3, b_X12_led_0_o, b_X12_led_32, b_X12_led_37, b_X12_led_42, b_X12_led_47, b_X12_led_52, if_pos, if_neg, w32_id, up_ne, Int.reduceAdd, qB_some, psh_some, psh_none, and_true, true_and, and_false, false_and, and_self, or_true, true_or, or_false, false_or, not_true_eq_false, not_false_eq_true, ↓reduceIte, Int.reduceEq, Int.reduceLT, Int.reduceLE, Int.reduceToNat, Nat.reduceEqDiff, Nat.reduceAdd]
theorem opr_image (h : rlR v) : opR L xs v nX11_image nX12_image 0 [] := by
  obtain ⟨⟨hD, hd0⟩, -⟩ := h.2.2.2.2.1
  obtain ⟨⟨e0, e1, e2, e3⟩, q1, -, e4, -⟩ := h.2.2.2.2.2.1
  obtain ⟨w0, hw0⟩ : ∃ w0, w0 = pm_up (pm_up (pm_up (pm_up v 48 0 (v 47 0)) 48 1 (v 47 1)) 48 2 (v 47 2)) 48 3 (v 47 3) := ⟨_, rfl⟩
  obtain ⟨w1, hw1⟩ : ∃ w1, w1 = pm_up (pm_cpy w0 42 45 0 0 36) 0 11 1 := ⟨_, rfl⟩
  have hc : ∀ c j, ¬ (c = 45 ∧ j < 36) → pm_cpy w0 42 45 0 0 36 c j = w0 c j := fun c j q => if_neg (by omega)
  have hu0 : ∀ c j, ¬ (c = 48 ∧ j < 4) → w0 c j = v c j := fun c j q => by
    rw [hw0, up_ne (by omega), up_ne (by omega), up_ne (by omega), up_ne (by omega)]
  have hu1 : ∀ c j, ¬ (c = 48 ∧ j < 4 ∨ c = 45 ∧ j < 36 ∨ c = 0 ∧ j = 11) → w1 c j = v c j := fun c j q => by
    rw [hw1, up_ne (by omega), hc c j (by omega), hu0 c j (by omega)]
  have h45 : ∀ i, i < 36 → w1 45 i = v 42 i := fun i hi => by
    rw [hw1, up_ne (by omega)]
    refine (if_pos (by omega)).trans ?_
    rw [show 0 + (i - 0) = i by omega]
    exact hu0 42 i (by omega)
  obtain ⟨w2, m1, m2, m3⟩ := lpr_img1 (L := L) (xs := xs) (d := 999) 36 0 (pm_up w1 63 36 1) (by omega)
  obtain ⟨w3, hw3⟩ : ∃ w3, w3 = pm_up (pm_up (pm_up (pm_up w2 83 0 (w2 63 33)) 83 1 (w2 63 34)) 83 2 (w2 63 35)) 83 3 (w2 63 32) := ⟨_, rfl⟩
  have hu2 : ∀ c j, ¬ (c = 48 ∧ j < 4 ∨ c = 45 ∧ j < 36 ∨ c = 0 ∧ j = 11 ∨ c = 82 ∧ j < 36 ∨ c = 63 ∧ j = 36) → w2 c j = v c j := fun c j q => by
    rw [m2 c j (by omega), up_ne (by omega), hu1 c j (by omega)]
  have hu : ∀ c j, ¬ (c = 48 ∧ j < 4 ∨ c = 45 ∧ j < 36 ∨ c = 0 ∧ j = 11 ∨ c = 82 ∧ j < 36 ∨ c = 63 ∧ j = 36 ∨ c = 83 ∧ j < 4) → w3 c j = v c j := fun c j q => by
    rw [hw3, up_ne (by omega), up_ne (by omega), up_ne (by omega), up_ne (by omega), hu2 c j (by omega)]
  have h82 : ∀ i, i < 36 → w3 82 i = v 42 i := fun i hi => by
    rw [hw3, up_ne (by omega), up_ne (by omega), up_ne (by omega), up_ne (by omega), m3 i (by omega) hi, up_ne (by omega), hu1 79 i (by omega)]
    exact (hD i hi).1
  have h45' : ∀ i, i < 36 → w3 45 i = v 42 i := fun i hi => by
    rw [hw3, up_ne (by omega), up_ne (by omega), up_ne (by omega), up_ne (by omega), m2 45 i (by omega), up_ne (by omega)]
    exact h45 i hi
  have h48 : ∀ j, w3 48 j = w0 48 j := fun j => by
    rw [hw3, up_ne (by omega), up_ne (by omega), up_ne (by omega), up_ne (by omega), m2 48 j (by omega), up_ne (by omega), hw1, up_ne (by omega), hc 48 j (by omega)]
  have h011 : w3 0 11 = 1 := by
    rw [hw3, up_ne (by omega), up_ne (by omega), up_ne (by omega), up_ne (by omega), m2 0 11 (by omega), up_ne (by omega), hw1, up_eq]
  have h6336 : w3 63 36 = 1 := by
    rw [hw3, up_ne (by omega), up_ne (by omega), up_ne (by omega), up_ne (by omega), m2 63 36 (by omega), up_eq]
  refine ⟨v 47 1, w1, w3, ?_, ?_, ?_⟩
  · have a1 : qE L xs 999 nX3_become [(2, 48), (2, 47)] (qS v) = some (none, qS w0) := by
      simp (disch := omega) only [e_X3_become_48_47, b_X3_become_48_47_0, b_X3_become_48_47_8, b_X3_become_48_47_16, b_X3_become_48_47_24, b_X3_become_48_47_32, up_ne, qB_some, psh_some, psh_none, and_true, true_and, and_false, false_and, and_self, or_true, true_or, or_false, false_or, not_true_eq_false, not_false_eq_true, ↓reduceIte, Int.reduceEq, Int.reduceLT, Int.reduceLE, Int.reduceToNat, Nat.reduceEqDiff, Nat.reduceAdd]
      rw [hw0]
    rw [e_X11_image, b_X11_image_0, a1, qB_some, psh_none, b_X11_image_11, c_become44, qB_some, psh_none, b_X11_image_22, ← hw1, b_X11_image_27, hu1 47 1 (by omega)]
  · have l2 := lpr_img2 (L := L) (xs := xs) (d := 998) (v := w2)
    rw [← hw3, hu2 63 33 (by omega), e1] at l2
    rw [e_X12_image, b_X12_image_0, b_X12_image_5]
    refine Eq.trans m1 ?_
    rw [b_X12_image_31]
    exact l2
  · have hD3 : rlD w3 := by
      refine ⟨⟨fun i hi => ?_, fun a ha => ?_⟩, fun _ => ⟨fun i hi => ?_, fun a ha => ?_⟩⟩
      · rw [hu 79 i (by omega), hu 42 i (by omega)]
        exact hD i hi
      · rw [hu 42 (7 * a) (by omega)]
        exact hd0 a ha
      · rw [h82 i hi, h45' i hi]
        exact ⟨rfl, (hD i hi).2⟩
      · rw [h45' (7 * a) (by omega)]
        exact hd0 a ha
    have hG3 : rlG w3 := by
      have z0 : w0 48 0 = v 47 0 := by rw [hw0]; simp (disch := omega) only [up_ne, up_eq]
      have z1 : w0 48 1 = v 47 1 := by rw [hw0]; simp (disch := omega) only [up_ne, up_eq]
      have z2 : w0 48 2 = v 47 2 := by rw [hw0]; simp (disch := omega) only [up_ne, up_eq]
      have z3 : w0 48 3 = v 47 3 := by rw [hw0]; simp (disch := omega) only [up_ne, up_eq]
      have y0 : w3 83 0 = v 47 1 := by rw [hw3]; simp (disch := omega) only [up_ne, up_eq, hu2, e1]
      have y1 : w3 83 1 = v 47 2 := by rw [hw3]; simp (disch := omega) only [up_ne, up_eq, hu2, e2]
      have y2 : w3 83 2 = v 47 3 := by rw [hw3]; simp (disch := omega) only [up_ne, up_eq, hu2, e3]
      have y3 : w3 83 3 = v 47 0 := by rw [hw3]; simp (disch := omega) only [up_ne, up_eq, hu2, e0]
      refine ⟨⟨?_, ?_, ?_, ?_⟩, ?_, fun _ => ⟨⟨?_, ?_, ?_, ?_⟩, ?_⟩, ?_, ?_⟩
      · rw [hu 63 32 (by omega), hu 47 0 (by omega)]; exact e0
      · rw [hu 63 33 (by omega), hu 47 1 (by omega)]; exact e1
      · rw [hu 63 34 (by omega), hu 47 2 (by omega)]; exact e2
      · rw [hu 63 35 (by omega), hu 47 3 (by omega)]; exact e3
      · rw [hu 47 0 (by omega)]; exact q1
      · rw [y3, h48, z0]
      · rw [y0, h48, z1]
      · rw [y1, h48, z2]
      · rw [y2, h48, z3]
      · rw [h48, z0]; exact q1
      · rw [h011, h6336]
      · rw [h011]; omega
    exact rlR_or h (Or.inr (fun c j q => hu c j (by unfold dsW at q; omega))) (Or.inr (fun c j q => hu c j (by unfold dsC at q; omega))) (Or.inr (fun c j q => hu c j (by unfold dsT at q; omega))) (Or.inr (fun c j q => hu c j (by unfold dsL at q; omega))) (Or.inl hD3) (Or.inl hG3) (Or.inr (fun c j q => hu c j (by unfold dsB at q; omega))) (Or.inr (fun c j q => hu c j (by unfold dsS at q; omega))) (Or.inr (fun c j q => hu c j (by unfold dsN at q; omega)))
theorem cr_become41 : qE L xs (d + 1) nX2_become [(2, 41), (2, 44)] (qS v) = some (none, qS (pm_cpy v 45 42 0 0 36)) := by
  rw [e_X2_become_41_44, b_X2_become_41_44_0]
  refine (qG_cpy (s := 45) (t := 42) (e := 0) (ns := 36) (nt := 36) rfl rfl rfl rfl (Or.inl rfl) (by omega) (by omega) (by omega) (by omega) (by omega) rfl (nr_of rfl) (nr_of rfl)).trans ?_
  exact b_X2_become_41_44_18
theorem opr_back (h : rlR v) : opR L xs v nX11_back nX12_back 0 [] := by
  obtain ⟨⟨hD, hd0⟩, hI⟩ := h.2.2.2.2.1
  obtain ⟨⟨e0, e1, e2, e3⟩, q1, hJ, e4, e5⟩ := h.2.2.2.2.2.1
  by_cases g : v 0 11 = 0
  · refine opR_no (r := -5) h ?_ ?_
    · rw [e_X11_back, b_X11_back_0, if_pos g, b_X11_back_7]
    · rw [e_X12_back, b_X12_back_0, if_pos (by omega), b_X12_back_7]
  · have g1 : v 0 11 = 1 := by omega
    obtain ⟨hI1, hI2⟩ := hI g1
    obtain ⟨⟨j0, j1, j2, j3⟩, j4⟩ := hJ g1
    obtain ⟨w0, hw0⟩ : ∃ w0, w0 = pm_up (pm_up (pm_up (pm_up v 47 0 (v 48 0)) 47 1 (v 48 1)) 47 2 (v 48 2)) 47 3 (v 48 3) := ⟨_, rfl⟩
    obtain ⟨w1, hw1⟩ : ∃ w1, w1 = pm_cpy w0 45 42 0 0 36 := ⟨_, rfl⟩
    have hu0 : ∀ c j, ¬ (c = 47 ∧ j < 4) → w0 c j = v c j := fun c j q => by
      rw [hw0, up_ne (by omega), up_ne (by omega), up_ne (by omega), up_ne (by omega)]
    have hc : ∀ c j, ¬ (c = 42 ∧ j < 36) → w1 c j = w0 c j := fun c j q => by
      rw [hw1]
      exact if_neg (by omega)
    have hu1 : ∀ c j, ¬ (c = 47 ∧ j < 4 ∨ c = 42 ∧ j < 36) → w1 c j = v c j := fun c j q => by
      rw [hc c j (by omega), hu0 c j (by omega)]
    have h42 : ∀ i, i < 36 → w1 42 i = v 45 i := fun i hi => by
      rw [hw1]
      refine (if_pos (by omega)).trans ?_
      rw [show 0 + (i - 0) = i by omega]
      exact hu0 45 i (by omega)
    obtain ⟨w2, m1, m2, m3⟩ := lpr_back1 (L := L) (xs := xs) (d := 999) 36 0 w1 (by omega)
    have hu2 : ∀ c j, ¬ (c = 47 ∧ j < 4 ∨ c = 42 ∧ j < 36 ∨ c = 79 ∧ j < 36) → w2 c j = v c j := fun c j q => by
      rw [m2 c j (by omega), hu1 c j (by omega)]
    obtain ⟨w3, hw3⟩ : ∃ w3, w3 = pm_up (pm_up (pm_up (pm_up w2 63 33 (v 48 1)) 63 34 (v 48 2)) 63 35 (v 48 3)) 63 32 (v 48 0) := ⟨_, rfl⟩
    have hu : ∀ c j, ¬ (c = 47 ∧ j < 4 ∨ c = 42 ∧ j < 36 ∨ c = 79 ∧ j < 36 ∨ c = 63 ∧ 32 ≤ j ∧ j ≤ 35) → w3 c j = v c j := fun c j q => by
      rw [hw3, up_ne (by omega), up_ne (by omega), up_ne (by omega), up_ne (by omega), hu2 c j (by omega)]
    have h47 : ∀ j, w3 47 j = w0 47 j := fun j => by
      rw [hw3, up_ne (by omega), up_ne (by omega), up_ne (by omega), up_ne (by omega), m2 47 j (by omega), hc 47 j (by omega)]
    have z0 : w0 47 0 = v 48 0 := by rw [hw0]; simp (disch := omega) only [up_ne, up_eq]
    have z1 : w0 47 1 = v 48 1 := by rw [hw0]; simp (disch := omega) only [up_ne, up_eq]
    have z2 : w0 47 2 = v 48 2 := by rw [hw0]; simp (disch := omega) only [up_ne, up_eq]
    have z3 : w0 47 3 = v 48 3 := by rw [hw0]; simp (disch := omega) only [up_ne, up_eq]
    refine ⟨v 48 1, w1, w3, ?_, ?_, ?_⟩
    · have a1 : qE L xs 999 nX3_become [(2, 47), (2, 48)] (qS v) = some (none, qS w0) := by
        simp (disch := omega) only [e_X3_become_47_48, b_X3_become_47_48_0, b_X3_become_47_48_8, b_X3_become_47_48_16, b_X3_become_47_48_24, b_X3_become_47_48_32, up_ne, qB_some, psh_some, psh_none, and_true, true_and, and_false, false_and, and_self, or_true, true_or, or_false, false_or, not_true_eq_false, not_false_eq_true, ↓reduceIte, Int.reduceEq, Int.reduceLT, Int.reduceLE, Int.reduceToNat, Nat.reduceEqDiff, Nat.reduceAdd]
        rw [hw0]
      rw [e_X11_back, b_X11_back_0, if_neg g, b_X11_back_10, a1, qB_some, psh_none, b_X11_back_21, cr_become41, ← hw1, qB_some, psh_none, b_X11_back_32, hc 47 1 (by omega), z1]
    · rw [e_X12_back, b_X12_back_0, hu1 63 36 (by omega), if_neg (by omega), b_X12_back_10]
      refine Eq.trans m1 ?_
      rw [b_X12_back_36, hu2 83 0 (by omega), j1, b_X12_back_46, up_ne (by omega), hu2 83 1 (by omega), j2, b_X12_back_56, up_ne (by omega), up_ne (by omega), hu2 83 2 (by omega), j3, b_X12_back_66, up_ne (by omega), up_ne (by omega), up_ne (by omega), hu2 83 3 (by omega), j0, ← hw3, b_X12_back_76, hw3]
      simp (disch := omega) only [up_ne, up_eq]
    · have hD3 : rlD w3 := by
        have k42 : ∀ i, i < 36 → w3 42 i = v 45 i := fun i hi => by
          rw [hw3, up_ne (by omega), up_ne (by omega), up_ne (by omega), up_ne (by omega), m2 42 i (by omega)]
          exact h42 i hi
        have k79 : ∀ i, i < 36 → w3 79 i = v 82 i := fun i hi => by
          rw [hw3, up_ne (by omega), up_ne (by omega), up_ne (by omega), up_ne (by omega), m3 i (by omega) hi, hu1 82 i (by omega)]
        refine ⟨⟨fun i hi => ?_, fun a ha => ?_⟩, fun _ => ⟨fun i hi => ?_, fun a ha => ?_⟩⟩
        · rw [k42 i hi, k79 i hi]
          exact hI1 i hi
        · rw [k42 (7 * a) (by omega)]
          exact hI2 a ha
        · rw [hu 82 i (by omega), hu 45 i (by omega)]
          exact hI1 i hi
        · rw [hu 45 (7 * a) (by omega)]
          exact hI2 a ha
      have hG3 : rlG w3 := by
        have y0 : w3 63 32 = v 48 0 := by rw [hw3]; simp (disch := omega) only [up_ne, up_eq]
        have y1 : w3 63 33 = v 48 1 := by rw [hw3]; simp (disch := omega) only [up_ne, up_eq]
        have y2 : w3 63 34 = v 48 2 := by rw [hw3]; simp (disch := omega) only [up_ne, up_eq]
        have y3 : w3 63 35 = v 48 3 := by rw [hw3]; simp (disch := omega) only [up_ne, up_eq]
        refine rG_set h.2.2.2.2.2.1 ?_ ?_ ?_ ?_ ?_ (fun c j q x1 x2 => hu c j (by unfold dsG at q; omega))
        · rw [y0, h47, z0]
        · rw [y1, h47, z1]
        · rw [y2, h47, z2]
        · rw [y3, h47, z3]
        · rw [h47, z0]; exact j4
      exact rlR_or h (Or.inr (fun c j q => hu c j (by unfold dsW at q; omega))) (Or.inr (fun c j q => hu c j (by unfold dsC at q; omega))) (Or.inr (fun c j q => hu c j (by unfold dsT at q; omega))) (Or.inr (fun c j q => hu c j (by unfold dsL at q; omega))) (Or.inl hD3) (Or.inl hG3) (Or.inr (fun c j q => hu c j (by unfold dsB at q; omega))) (Or.inr (fun c j q => hu c j (by unfold dsS at q; omega))) (Or.inr (fun c j q => hu c j (by unfold dsN at q; omega)))
theorem opr_body (h : rlR v) (a : Int) : opR L xs v nX11_body nX12_body 0 [(0, a)] := by
  obtain ⟨b1, b2, b3, b4, b5, b6⟩ := h.2.2.2.2.2.2.1
  obtain ⟨N, hN⟩ : ∃ N : Nat, v 49 2 = (N : Int) := ⟨(v 49 2).toNat, by omega⟩
  by_cases g : 0 ≤ a ∧ a < 8
  · by_cases g2 : N < 50
    · obtain ⟨w1, hw1⟩ : ∃ w1, w1 = pm_up (pm_up v 50 N a) 49 2 ((N : Int) + 1) := ⟨_, rfl⟩
      obtain ⟨w2, hw2⟩ : ∃ w2, w2 = pm_up (pm_up w1 84 N a) 63 39 ((N : Int) + 1) := ⟨_, rfl⟩
      have hu : ∀ c j, ¬ (c = 50 ∧ j = N ∨ c = 49 ∧ j = 2 ∨ c = 84 ∧ j = N ∨ c = 63 ∧ j = 39) → w2 c j = v c j := fun c j q => by
        rw [hw2, up_ne (by omega), up_ne (by omega), hw1, up_ne (by omega), up_ne (by omega)]
      have k492 : w2 49 2 = (N : Int) + 1 := by rw [hw2, hw1]; simp (disch := omega) only [up_ne, up_eq]
      refine ⟨(N : Int), w1, w2, ?_, ?_, ?_⟩
      · rw [e_X11_body, b_X11_body_0, cb_hasKind, qB_some, psh_some, b_X11_body_4, zb_0, if_pos g, b_X11_body_9, if_pos (by omega), b_X11_body_26, e_X0_add, b_X0_add_0, if_pos (by omega), b_X0_add_9, if_pos (by omega), hN, Int.toNat_natCast, b_X0_add_19, up_ne (by omega), hN, w32_id (by omega) (by omega), ← hw1, b_X0_add_29, hw1, up_eq, w32_id (by omega) (by omega), show (N : Int) + 1 - 1 = (N : Int) by omega, qB_some, psh_some, b_X11_body_34]
      · have k : w1 63 39 = (N : Int) := by rw [hw1, up_ne (by omega), up_ne (by omega)]; omega
        rw [e_X12_body, b_X12_body_0, c_within, qB_some, psh_some, b_X12_body_9, zb_0, if_pos (by omega), b_X12_body_14, k, if_neg (by omega), b_X12_body_26, k, if_pos (by omega), Int.toNat_natCast, b_X12_body_36, up_ne (by omega), k, w32_id (by omega) (by omega), ← hw2, b_X12_body_46, hw2, up_eq, w32_id (by omega) (by omega), show (N : Int) + 1 - 1 = (N : Int) by omega]
      · have hB : rlB w2 := by
          refine ⟨by rw [k492]; omega, ?_, fun i hi => ?_, ?_, ?_, fun i hi hi2 => ?_⟩
          · rw [k492, hw2, up_eq]
          · rw [k492] at hi
            by_cases z : i = N
            · subst z
              have z1 : w2 84 i = a := by rw [hw2]; simp (disch := omega) only [up_ne, up_eq]
              have z2 : w2 50 i = a := by rw [hw2, hw1]; simp (disch := omega) only [up_ne, up_eq]
              rw [z1, z2]
              exact ⟨rfl, by omega, by omega⟩
            · rw [hu 84 i (by omega), hu 50 i (by omega)]
              exact b3 i (by omega)
          · rw [hu 63 42 (by omega), hu 49 3 (by omega)]; exact b4
          · rw [hu 49 3 (by omega)]; exact b5
          · rw [hu 49 3 (by omega)] at hi
            rw [hu 85 i (by omega), hu 51 i (by omega)]
            exact b6 i hi hi2
        have hS : rlS w2 := fun j hj => by
          have q := h.2.2.2.2.2.2.2.1 j hj
          rw [hu 53 j (by omega), hu 54 j (by omega), hu 55 j (by omega), hu 86 j (by omega), hu 87 j (by omega), k492]
          refine ⟨q.1, q.2.1, fun z => ?_, fun z => ?_⟩
          · have := q.2.2.1 z
            omega
          · obtain ⟨z1, z2, z3, z4⟩ := q.2.2.2 z
            refine ⟨z1, z2, z3, fun i hi => ?_⟩
            rw [hu 88 (60 * j + i) (by omega), hu (57 + j) i (by omega)]
            exact z4 i hi
        exact rlR_or h (Or.inr (fun c j q => hu c j (by unfold dsW at q; omega))) (Or.inr (fun c j q => hu c j (by unfold dsC at q; omega))) (Or.inr (fun c j q => hu c j (by unfold dsT at q; omega))) (Or.inr (fun c j q => hu c j (by unfold dsL at q; omega))) (Or.inr (fun c j q => hu c j (by unfold dsD at q; omega))) (Or.inr (fun c j q => hu c j (by unfold dsG at q; omega))) (Or.inl hB) (Or.inl hS) (Or.inr (fun c j q => hu c j (by unfold dsN at q; omega)))
    · refine opR_no (r := -3) h ?_ ?_
      · rw [e_X11_body, b_X11_body_0, cb_hasKind, qB_some, psh_some, b_X11_body_4, zb_0, if_pos g, b_X11_body_9, if_neg (by omega), b_X11_body_21, b_X11_body_34]
      · rw [e_X12_body, b_X12_body_0, c_within, qB_some, psh_some, b_X12_body_9, zb_0, if_pos (by omega), b_X12_body_14, if_pos (by omega), b_X12_body_23]
  · refine opR_no (r := -1) h ?_ ?_
    · rw [e_X11_body, b_X11_body_0, cb_hasKind, qB_some, psh_some, b_X11_body_4, zb_0, if_neg g, b_X11_body_7]
    · rw [e_X12_body, b_X12_body_0, c_within, qB_some, psh_some, b_X12_body_9, zb_0, if_neg (by omega), b_X12_body_12]
/-- one shelf holds another thing -/
theorem rS_set {K : Nat} (hK6 : K < 6) (h : rlS v) (hc : ∀ c j, dsS c j → ¬ ((c = 53 ∨ c = 54 ∨ c = 55 ∨ c = 86 ∨ c = 87) ∧ j = K) → ¬ (c = 57 + K) → ¬ (c = 88 ∧ 60 * K ≤ j ∧ j < 60 * K + 60) → w c j = v c j) (hK : (-2 ≤ w 53 K ∧ w 53 K ≤ 4) ∧ (w 53 K = -1 → w 86 K = -1) ∧ (w 53 K = -2 → w 86 K = w 54 K ∧ 0 ≤ w 54 K ∧ w 54 K < w 49 2) ∧ (0 ≤ w 53 K → w 86 K = 50 + w 53 K ∧ w 87 K = w 55 K ∧ (0 ≤ w 55 K ∧ w 55 K ≤ 60) ∧ ∀ i, i < 60 → w 88 (60 * K + i) = w (57 + K) i ∧ rng (w 53 K) (w (57 + K) i))) : rlS w := by
  unfold dsS at hc
  intro j hj
  by_cases z : j = K
  · rw [z]; exact hK
  · have q := h j hj
    rw [hc 53 j (by omega) (by omega) (by omega) (by omega), hc 54 j (by omega) (by omega) (by omega) (by omega), hc 55 j (by omega) (by omega) (by omega) (by omega), hc 86 j (by omega) (by omega) (by omega) (by omega), hc 87 j (by omega) (by omega) (by omega) (by omega), hc 49 2 (by omega) (by omega) (by omega) (by omega)]
    refine ⟨q.1, q.2.1, q.2.2.1, fun y => ?_⟩
    obtain ⟨z1, z2, z3, z4⟩ := q.2.2.2 y
    refine ⟨z1, z2, z3, fun i hi => ?_⟩
    rw [hc 88 (60 * j + i) (by omega) (by omega) (by omega) (by omega), hc (57 + j) i (by omega) (by omega) (by omega) (by omega)]
    exact z4 i hi
theorem opr_keep (h : rlR v) (a b : Int) : opR L xs v nX11_keep nX12_keep 0 [(0, a), (0, b)] := by
  obtain ⟨b1, b2, -⟩ := h.2.2.2.2.2.2.1
  by_cases g : (0 ≤ a ∧ a < 6) ∧ (b = -1 ∨ (0 ≤ b ∧ b < v 49 2))
  · obtain ⟨K, rfl⟩ : ∃ K : Nat, a = (K : Int) := ⟨a.toNat, by omega⟩
    have mb : ∀ w : Nat → Nat → Int, w 63 39 = v 63 39 → qE L xs 1000 nX12_keep [(2, 63), (0, (K : Int)), (0, b)] (qS w) = some (some (0, 1), qS (pm_up (pm_up w 86 K b) 87 K 0)) := fun w hw => by
      rw [e_X12_keep, b_X12_keep_0, ms_isShelf, qB_some, psh_some, b_X12_keep_4, zb_0, if_pos g.1, b_X12_keep_7]
      by_cases z : b = -1
      · rw [if_pos z, b_X12_keep_22, if_pos (by omega), Int.toNat_natCast, b_X12_keep_29, if_pos (by omega), Int.toNat_natCast, b_X12_keep_36]
      · rw [if_neg z, b_X12_keep_12, mb_isBody b (by omega) (by omega), qB_some, psh_some, b_X12_keep_17, zb_0, if_pos (by omega), b_X12_keep_22, if_pos (by omega), Int.toNat_natCast, b_X12_keep_29, if_pos (by omega), Int.toNat_natCast, b_X12_keep_36]
    by_cases z : b = -1
    · obtain ⟨w1, hw1⟩ : ∃ w1, w1 = pm_up v 53 K (-1) := ⟨_, rfl⟩
      obtain ⟨w2, hw2⟩ : ∃ w2, w2 = pm_up (pm_up w1 86 K b) 87 K 0 := ⟨_, rfl⟩
      have hu : ∀ c j, ¬ ((c = 53 ∨ c = 86 ∨ c = 87) ∧ j = K) → w2 c j = v c j := fun c j q => by
        rw [hw2, up_ne (by omega), up_ne (by omega), hw1, up_ne (by omega)]
      refine ⟨1, w1, w2, ?_, ?_, ?_⟩
      · rw [e_X11_keep, b_X11_keep_0, cs_has, qB_some, psh_some, b_X11_keep_4, zb_0, if_pos g.1, b_X11_keep_7, if_pos z, b_X11_keep_25, if_pos z, b_X11_keep_30, e_X8_clear, b_X8_clear_0, cs_has, qB_some, psh_some, b_X8_clear_4, zb_0, if_pos g.1, b_X8_clear_7, if_pos (by omega), Int.toNat_natCast, ← hw1, b_X8_clear_14, qB_some, psh_none, b_X11_keep_38, b_X11_keep_50]
      · rw [mb w1 (by rw [hw1, up_ne (by omega)]), ← hw2]
      · have hS : rlS w2 := by
          have z1 : w2 53 K = -1 := by rw [hw2, hw1]; simp (disch := omega) only [up_ne, up_eq]
          have z2 : w2 86 K = b := by rw [hw2]; simp (disch := omega) only [up_ne, up_eq]
          refine rS_set (K := K) (by omega) h.2.2.2.2.2.2.2.1 (fun c j q x1 x2 x3 => hu c j (by omega)) ?_
          rw [z1, z2]
          exact ⟨by omega, fun _ => z, fun q => by omega, fun q => by omega⟩
        exact rlR_or h (Or.inr (fun c j q => hu c j (by unfold dsW at q; omega))) (Or.inr (fun c j q => hu c j (by unfold dsC at q; omega))) (Or.inr (fun c j q => hu c j (by unfold dsT at q; omega))) (Or.inr (fun c j q => hu c j (by unfold dsL at q; omega))) (Or.inr (fun c j q => hu c j (by unfold dsD at q; omega))) (Or.inr (fun c j q => hu c j (by unfold dsG at q; omega))) (Or.inr (fun c j q => hu c j (by unfold dsB at q; omega))) (Or.inl hS) (Or.inr (fun c j q => hu c j (by unfold dsN at q; omega)))
    · have g3 : 0 ≤ b ∧ b < v 49 2 := by omega
      obtain ⟨w1, hw1⟩ : ∃ w1, w1 = pm_up (pm_up v 53 K (-2)) 54 K b := ⟨_, rfl⟩
      obtain ⟨w2, hw2⟩ : ∃ w2, w2 = pm_up (pm_up w1 86 K b) 87 K 0 := ⟨_, rfl⟩
      have hu : ∀ c j, ¬ ((c = 53 ∨ c = 54 ∨ c = 86 ∨ c = 87) ∧ j = K) → w2 c j = v c j := fun c j q => by
        rw [hw2, up_ne (by omega), up_ne (by omega), hw1, up_ne (by omega), up_ne (by omega)]
      refine ⟨1, w1, w2, ?_, ?_, ?_⟩
      · rw [e_X11_keep, b_X11_keep_0, cs_has, qB_some, psh_some, b_X11_keep_4, zb_0, if_pos g.1, b_X11_keep_7, if_neg z, b_X11_keep_12, cb_has b (by omega), qB_some, psh_some, b_X11_keep_20, zb_0, if_pos g3, b_X11_keep_25, if_neg z, b_X11_keep_41, e_X8_holdBrick, b_X8_holdBrick_0, cs_has, qB_some, psh_some, b_X8_holdBrick_4, zb_0, if_pos g.1, b_X8_holdBrick_7, if_pos (by omega), Int.toNat_natCast, b_X8_holdBrick_15, if_pos (by omega), Int.toNat_natCast, ← hw1, b_X8_holdBrick_22, qB_some, psh_none, b_X11_keep_50]
      · rw [mb w1 (by rw [hw1, up_ne (by omega), up_ne (by omega)]), ← hw2]
      · have hS : rlS w2 := by
          have z1 : w2 53 K = -2 := by rw [hw2, hw1]; simp (disch := omega) only [up_ne, up_eq]
          have z2 : w2 86 K = b := by rw [hw2]; simp (disch := omega) only [up_ne, up_eq]
          have z3 : w2 54 K = b := by rw [hw2, hw1]; simp (disch := omega) only [up_ne, up_eq]
          refine rS_set (K := K) (by omega) h.2.2.2.2.2.2.2.1 (fun c j q x1 x2 x3 => hu c j (by omega)) ?_
          rw [z1, z2, z3, hu 49 2 (by omega)]
          exact ⟨by omega, fun q => by omega, fun _ => ⟨rfl, g3⟩, fun q => by omega⟩
        exact rlR_or h (Or.inr (fun c j q => hu c j (by unfold dsW at q; omega))) (Or.inr (fun c j q => hu c j (by unfold dsC at q; omega))) (Or.inr (fun c j q => hu c j (by unfold dsT at q; omega))) (Or.inr (fun c j q => hu c j (by unfold dsL at q; omega))) (Or.inr (fun c j q => hu c j (by unfold dsD at q; omega))) (Or.inr (fun c j q => hu c j (by unfold dsG at q; omega))) (Or.inr (fun c j q => hu c j (by unfold dsB at q; omega))) (Or.inl hS) (Or.inr (fun c j q => hu c j (by unfold dsN at q; omega)))
  · refine opR_no (r := -1) h ?_ ?_
    · rw [e_X11_keep, b_X11_keep_0, cs_has, qB_some, psh_some, b_X11_keep_4, zb_0]
      by_cases g1 : 0 ≤ a ∧ a < 6
      · rw [if_pos g1, b_X11_keep_7, if_neg (by omega), b_X11_keep_12, cb_has b (by omega), qB_some, psh_some, b_X11_keep_20, zb_0, if_neg (by omega), b_X11_keep_23]
      · rw [if_neg g1, b_X11_keep_23]
    · rw [e_X12_keep, b_X12_keep_0, ms_isShelf, qB_some, psh_some, b_X12_keep_4, zb_0]
      by_cases g1 : 0 ≤ a ∧ a < 6
      · rw [if_pos g1, b_X12_keep_7, if_neg (by omega), b_X12_keep_12, mb_isBody b (by omega) (by omega), qB_some, psh_some, b_X12_keep_17, zb_0, if_neg (by omega), b_X12_keep_20]
      · rw [if_neg g1, b_X12_keep_20]
theorem opr_row (h : rlR v) (a s n : Int) : opR L xs v nX11_row nX12_row 0 [(0, a), (0, s), (0, n)] := by
  by_cases g : (0 ≤ a ∧ a < 6) ∧ (0 ≤ s ∧ s ≤ 4) ∧ n ≤ 60
  · by_cases g0 : n < 0
    · refine opR_no (r := -14) h ?_ ?_
      · rw [e_X11_row, b_X11_row_0, cs_has, qB_some, psh_some, b_X11_row_4, zb_0, if_pos g.1, b_X11_row_7, if_neg (by omega), b_X11_row_11, if_neg (by omega), b_X11_row_16, if_neg (by omega), b_X11_row_24, if_pos g0, b_X11_row_28]
      · rw [e_X12_row, b_X12_row_0, ms_isShelf, qB_some, psh_some, b_X12_row_4, zb_0, if_pos g.1, b_X12_row_7, c_within, qB_some, psh_some, b_X12_row_16, zb_0, if_pos g.2.1, b_X12_row_19, if_neg (by omega), b_X12_row_27, if_pos g0, b_X12_row_31]
    · obtain ⟨K, rfl⟩ : ∃ K : Nat, a = (K : Int) := ⟨a.toNat, by omega⟩
      obtain ⟨w1, hw1⟩ : ∃ w1, w1 = pm_fl (pm_up (pm_up v 53 K s) 55 K n) (57 + K) 0 60 0 := ⟨_, rfl⟩
      obtain ⟨w2, hw2⟩ : ∃ w2, w2 = pm_fl (pm_up (pm_up w1 86 K (50 + s)) 87 K n) 88 (60 * K) (60 * K + 60) 0 := ⟨_, rfl⟩
      have f1 : ∀ c j, ¬ (c = 57 + K ∧ j < 60) → w1 c j = pm_up (pm_up v 53 K s) 55 K n c j := fun c j q => by
        rw [hw1]; exact if_neg (by omega)
      have f2 : ∀ c j, ¬ (c = 88 ∧ 60 * K ≤ j ∧ j < 60 * K + 60) → w2 c j = pm_up (pm_up w1 86 K (50 + s)) 87 K n c j := fun c j q => by
        rw [hw2]; exact if_neg (by omega)
      have hu : ∀ c j, ¬ ((c = 53 ∨ c = 55 ∨ c = 86 ∨ c = 87) ∧ j = K ∨ c = 57 + K ∧ j < 60 ∨ c = 88 ∧ 60 * K ≤ j ∧ j < 60 * K + 60) → w2 c j = v c j := fun c j q => by
        rw [f2 c j (by omega), up_ne (by omega), up_ne (by omega), f1 c j (by omega), up_ne (by omega), up_ne (by omega)]
      refine ⟨1, w1, w2, ?_, ?_, ?_⟩
      · have hr := c_holdRow (L := L) (xs := xs) (d := 997) (v := v) (K : Int) s n (by omega) (by omega)
        rw [Int.toNat_natCast, show pm_min n 60 = n from if_neg (by omega)] at hr
        have hmx : pm_max 0 n = n := by
          unfold pm_max
          split <;> omega
        rw [hmx, ← hw1] at hr
        rw [e_X11_row, b_X11_row_0, cs_has, qB_some, psh_some, b_X11_row_4, zb_0, if_pos g.1, b_X11_row_7, if_neg (by omega), b_X11_row_11, if_neg (by omega), b_X11_row_16, if_neg (by omega), b_X11_row_24, if_neg g0, b_X11_row_31, hr, qB_some, psh_none, b_X11_row_41]
      · have l := lp_row (L := L) (xs := xs) (d := 999) (K : Int) s n (by omega) (by omega) 60 (60 * K) (pm_up (pm_up w1 86 K (50 + s)) 87 K n) (by omega)
        rw [← hw2] at l
        rw [e_X12_row, b_X12_row_0, ms_isShelf, qB_some, psh_some, b_X12_row_4, zb_0, if_pos g.1, b_X12_row_7, c_within, qB_some, psh_some, b_X12_row_16, zb_0, if_pos g.2.1, b_X12_row_19, if_neg (by omega), b_X12_row_27, if_neg g0, b_X12_row_34, if_pos (by omega), Int.toNat_natCast, w32_id (by omega) (by omega), b_X12_row_44, if_pos (by omega), Int.toNat_natCast, b_X12_row_51, w32_id (by omega) (by omega), show 60 * (K : Int) = ((60 * K : Nat) : Int) by omega]
        exact l
      · have hS : rlS w2 := by
          have z1 : w2 53 K = s := by rw [f2 53 K (by omega), up_ne (by omega), up_ne (by omega), f1 53 K (by omega), up_ne (by omega), up_eq]
          have z2 : w2 86 K = 50 + s := by rw [f2 86 K (by omega), up_ne (by omega), up_eq]
          have z3 : w2 55 K = n := by rw [f2 55 K (by omega), up_ne (by omega), up_ne (by omega), f1 55 K (by omega), up_eq]
          have z4 : w2 87 K = n := by rw [f2 87 K (by omega), up_eq]
          refine rS_set (K := K) (by omega) h.2.2.2.2.2.2.2.1 (fun c j q x1 x2 x3 => hu c j (by omega)) ?_
          rw [z1, z2, z3, z4]
          refine ⟨by omega, fun q => by omega, fun q => by omega, fun _ => ⟨rfl, rfl, by omega, fun i hi => ?_⟩⟩
          have y1 : w2 88 (60 * K + i) = 0 := by rw [hw2]; exact if_pos (by omega)
          have y2 : w2 (57 + K) i = 0 := by
            rw [f2 (57 + K) i (by omega), up_ne (by omega), up_ne (by omega), hw1]
            exact if_pos (by omega)
          rw [y1, y2]
          refine ⟨rfl, ?_⟩
          unfold rng
          omega
        exact rlR_or h (Or.inr (fun c j q => hu c j (by unfold dsW at q; omega))) (Or.inr (fun c j q => hu c j (by unfold dsC at q; omega))) (Or.inr (fun c j q => hu c j (by unfold dsT at q; omega))) (Or.inr (fun c j q => hu c j (by unfold dsL at q; omega))) (Or.inr (fun c j q => hu c j (by unfold dsD at q; omega))) (Or.inr (fun c j q => hu c j (by unfold dsG at q; omega))) (Or.inr (fun c j q => hu c j (by unfold dsB at q; omega))) (Or.inl hS) (Or.inr (fun c j q => hu c j (by unfold dsN at q; omega)))
  · refine opR_no (r := -1) h ?_ ?_
    · rw [e_X11_row, b_X11_row_0, cs_has, qB_some, psh_some, b_X11_row_4, zb_0]
      by_cases g1 : 0 ≤ a ∧ a < 6
      · rw [if_pos g1, b_X11_row_7]
        by_cases g2 : s < 0
        · rw [if_pos g2, b_X11_row_22]
        · rw [if_neg g2, b_X11_row_11]
          by_cases g3 : 4 < s
          · rw [if_pos g3, b_X11_row_22]
          · rw [if_neg g3, b_X11_row_16, if_pos (by omega), b_X11_row_22]
      · rw [if_neg g1, b_X11_row_22]
    · rw [e_X12_row, b_X12_row_0, ms_isShelf, qB_some, psh_some, b_X12_row_4, zb_0]
      by_cases g1 : 0 ≤ a ∧ a < 6
      · rw [if_pos g1, b_X12_row_7, c_within, qB_some, psh_some, b_X12_row_16, zb_0]
        by_cases g2 : 0 ≤ s ∧ s ≤ 4
        · rw [if_pos g2, b_X12_row_19, if_pos (by omega), b_X12_row_25]
        · rw [if_neg g2, b_X12_row_25]
      · rw [if_neg g1, b_X12_row_25]
end OD2
end
section
/-! CALLS that keep the relation: put, element, shift, taken (written by wip/p1/87.opse.py) -/
section OE2
variable {L : Nat} {xs : Nat → Int} {d : Nat} {v w : Nat → Nat → Int} {k n : Nat}
theorem cr_isEmpty (K : Nat) (hK : K < 6) : qE L xs (d + 2) nX8_isEmpty [(2, 52), (0, (K : Int))] (qS v) = some (some (0, zb (v 53 K = -1)), qS v) := by
  rw [e_X8_isEmpty, b_X8_isEmpty_0, cs_has, qB_some, psh_some, b_X8_isEmpty_4, zb_0, if_pos (by omega), b_X8_isEmpty_7, if_pos (by omega), Int.toNat_natCast, b_X8_isEmpty_13]
  by_cases g : v 53 K = -1
  · rw [if_pos g, b_X8_isEmpty_17, b_X8_isEmpty_22, if_pos (by decide), zb_t g]
  · rw [if_neg g, b_X8_isEmpty_21, b_X8_isEmpty_22, if_pos (by decide), zb_f g]
theorem cr_sortOf (K : Nat) (hK : K < 6) : qE L xs (d + 2) nX8_sortOf [(2, 52), (0, (K : Int))] (qS v) = some (some (0, v 53 K), qS v) := by
  rw [e_X8_sortOf, b_X8_sortOf_0, cs_has, qB_some, psh_some, b_X8_sortOf_4, zb_0, if_pos (by omega), b_X8_sortOf_7, if_pos (by omega), Int.toNat_natCast, b_X8_sortOf_13, b_X8_sortOf_17]
theorem cr_holdsBrick (K : Nat) (hK : K < 6) : qE L xs (d + 2) nX8_holdsBrick [(2, 52), (0, (K : Int))] (qS v) = some (some (0, zb (v 53 K = -2)), qS v) := by
  rw [e_X8_holdsBrick, b_X8_holdsBrick_0, cs_has, qB_some, psh_some, b_X8_holdsBrick_4, zb_0, if_pos (by omega), b_X8_holdsBrick_7, if_pos (by omega), Int.toNat_natCast, b_X8_holdsBrick_13]
  by_cases g : v 53 K = -2
  · rw [if_pos g, b_X8_holdsBrick_18, b_X8_holdsBrick_23, if_pos (by decide), zb_t g]
  · rw [if_neg g, b_X8_holdsBrick_22, b_X8_holdsBrick_23, if_pos (by decide), zb_f g]
theorem cr_holdsRow (K : Nat) (hK : K < 6) (s : Int) : qE L xs (d + 2) nX8_holdsRow [(2, 52), (0, (K : Int)), (0, s)] (qS v) = some (some (0, zb (v 53 K = s)), qS v) := by
  rw [e_X8_holdsRow, b_X8_holdsRow_0, cs_has, qB_some, psh_some, b_X8_holdsRow_4, zb_0, if_pos (by omega), b_X8_holdsRow_7, if_pos (by omega), Int.toNat_natCast, b_X8_holdsRow_13]
  by_cases g : v 53 K = s
  · rw [if_pos g, b_X8_holdsRow_17, b_X8_holdsRow_22, if_pos (by decide), zb_t g]
  · rw [if_neg g, b_X8_holdsRow_21, b_X8_holdsRow_22, if_pos (by decide), zb_f g]
/-- how long a shelf's row is -/
def szS (v : Nat → Nat → Int) (K : Nat) : Int := if v 53 K < 0 then 0 else v 55 K
theorem szS_in (h : rlS v) (K : Nat) (hK : K < 6) : 0 ≤ szS v K ∧ szS v K ≤ 60 := by
  have q := h K hK
  unfold szS
  by_cases g : v 53 K < 0
  · rw [if_pos g]; omega
  · rw [if_neg g]
    exact (q.2.2.2 (by omega)).2.2.1
theorem cr_sizeOf (K : Nat) (hK : K < 6) : qE L xs (d + 3) nX8_sizeOf [(2, 52), (0, (K : Int))] (qS v) = some (some (0, szS v K), qS v) := by
  rw [e_X8_sizeOf, b_X8_sizeOf_0, cr_sortOf K hK, qB_some, psh_some, b_X8_sizeOf_5]
  unfold szS
  by_cases g : v 53 K < 0
  · rw [if_pos g, if_pos g, b_X8_sizeOf_17, b_X8_sizeOf_18]
  · rw [if_neg g, if_neg g, b_X8_sizeOf_8, if_pos (by omega), Int.toNat_natCast, b_X8_sizeOf_14, b_X8_sizeOf_18]
theorem cr_hasElements (h : rlS v) (K : Nat) (hK : K < 6) (i n : Int) (hi : i < 2147483648) (hn : n < 2147483648) : qE L xs (d + 4) nX8_hasElements [(2, 52), (0, (K : Int)), (0, i), (0, n)] (qS v) = some (some (0, zb (0 ≤ i ∧ 0 ≤ n ∧ i + n ≤ szS v K)), qS v) := by
  rw [e_X8_hasElements, b_X8_hasElements_0]
  by_cases g1 : i < 0
  · rw [if_pos g1, b_X8_hasElements_27, b_X8_hasElements_28, if_pos (by decide), zb_f (by omega)]
  · rw [if_neg g1, b_X8_hasElements_4]
    by_cases g2 : n < 0
    · rw [if_pos g2, b_X8_hasElements_27, b_X8_hasElements_28, if_pos (by decide), zb_f (by omega)]
    · rw [if_neg g2, b_X8_hasElements_8, cr_sizeOf K hK, qB_some, psh_some, w64_id (by omega) (by omega), b_X8_hasElements_18, lc_gt]
      by_cases g3 : szS v K < i + n
      · rw [if_pos g3, b_X8_hasElements_27, b_X8_hasElements_28, if_pos (by decide), zb_f (by omega)]
      · rw [if_neg g3, b_X8_hasElements_23, b_X8_hasElements_28, if_pos (by decide), zb_t (by omega)]
theorem cr_refusalOfRow (K : Nat) (hK : K < 6) (s : Int) (hs : s ≠ -1) : qE L xs (d + 3) nX8_refusalOfRow [(2, 52), (0, (K : Int)), (0, s)] (qS v) = some (some (0, if v 53 K = -1 then -11 else if v 53 K = s then 0 else -12), qS v) := by
  rw [e_X8_refusalOfRow, b_X8_refusalOfRow_0, cs_has, qB_some, psh_some, b_X8_refusalOfRow_4, zb_0, if_pos (by omega), b_X8_refusalOfRow_9, cr_isEmpty K hK, qB_some, psh_some, b_X8_refusalOfRow_14, zb_0]
  by_cases g : v 53 K = -1
  · rw [if_pos g, if_pos g, b_X8_refusalOfRow_17]
  · rw [if_neg g, if_neg g, b_X8_refusalOfRow_20, cr_holdsRow K hK, qB_some, psh_some, b_X8_refusalOfRow_26, zb_0]
    by_cases g2 : v 53 K = s
    · rw [if_pos g2, if_pos g2, b_X8_refusalOfRow_29, b_X8_refusalOfRow_35]
    · rw [if_neg g2, if_neg g2, b_X8_refusalOfRow_33, b_X8_refusalOfRow_35]
/-- why an element can't be had -/
def rfS (v : Nat → Nat → Int) (a i : Int) : Int := if 0 ≤ a ∧ a < 6 then (if v 53 a.toNat = -1 then -11 else if v 53 a.toNat = -2 then -12 else if 0 ≤ i ∧ i < szS v a.toNat then 0 else -13) else -1
theorem cr_refusal (h : rlS v) (a i : Int) (hi : i < 2147483648) : qE L xs (d + 5) nX8_refusalOfElement [(2, 52), (0, a), (0, i)] (qS v) = some (some (0, rfS v a i), qS v) := by
  unfold rfS
  by_cases g : 0 ≤ a ∧ a < 6
  · obtain ⟨K, rfl⟩ : ∃ K : Nat, a = (K : Int) := ⟨a.toNat, by omega⟩
    have q := h K (by omega)
    rw [if_pos g, Int.toNat_natCast, e_X8_refusalOfElement, b_X8_refusalOfElement_0, cr_sortOf K (by omega), qB_some, psh_some, b_X8_refusalOfElement_7]
    by_cases g1 : v 53 K = -1
    · have : qE L xs (d + 4) nX8_refusalOfRow [(2, 52), (0, (K : Int)), (0, v 53 K)] (qS v) = some (some (0, -11), qS v) := by
        rw [e_X8_refusalOfRow, b_X8_refusalOfRow_0, cs_has, qB_some, psh_some, b_X8_refusalOfRow_4, zb_0, if_pos (by omega), b_X8_refusalOfRow_9, cr_isEmpty K (by omega), qB_some, psh_some, b_X8_refusalOfRow_14, zb_0, if_pos g1, b_X8_refusalOfRow_17]
      rw [if_pos g1, this, qB_some, psh_some, b_X8_refusalOfElement_10, if_neg (by decide), b_X8_refusalOfElement_15]
    · rw [if_neg g1, cr_refusalOfRow K (by omega) _ g1, if_neg g1, if_pos rfl, qB_some, psh_some, b_X8_refusalOfElement_10, if_pos rfl, b_X8_refusalOfElement_17, cr_holdsBrick K (by omega), qB_some, psh_some, b_X8_refusalOfElement_22, zb_0]
      by_cases g2 : v 53 K = -2
      · rw [if_pos g2, if_pos g2, b_X8_refusalOfElement_25]
      · rw [if_neg g2, if_neg g2, b_X8_refusalOfElement_28, cr_hasElements h K (by omega) i 1 hi (by decide), qB_some, psh_some, b_X8_refusalOfElement_35, zb_0]
        by_cases g3 : 0 ≤ i ∧ i < szS v K
        · rw [if_pos (by omega), if_pos g3, b_X8_refusalOfElement_38, b_X8_refusalOfElement_44]
        · rw [if_neg (by omega), if_neg g3, b_X8_refusalOfElement_42, b_X8_refusalOfElement_44]
  · have so : qE L xs (d + 4) nX8_sortOf [(2, 52), (0, a)] (qS v) = some (some (0, -1), qS v) := by
      rw [e_X8_sortOf, b_X8_sortOf_0, cs_has, qB_some, psh_some, b_X8_sortOf_4, zb_0, if_neg g, b_X8_sortOf_16, b_X8_sortOf_17]
    rw [if_neg g, e_X8_refusalOfElement, b_X8_refusalOfElement_0, so, qB_some, psh_some, b_X8_refusalOfElement_7, e_X8_refusalOfRow, b_X8_refusalOfRow_0, cs_has, qB_some, psh_some, b_X8_refusalOfRow_4, zb_0, if_neg g, b_X8_refusalOfRow_7, qB_some, psh_some, b_X8_refusalOfElement_10, if_neg (by decide), b_X8_refusalOfElement_15]
/-- what the reference's shelf says of it -/
theorem mS_at (h : rlS v) (hb : v 49 2 ≤ 50) (K : Nat) (hK : K < 6) : (v 86 K < 0 ↔ v 53 K = -1) ∧ (v 86 K < 50 ↔ v 53 K < 0) ∧ (0 ≤ v 53 K → v 86 K = 50 + v 53 K ∧ v 87 K = szS v K) := by
  have q := h K hK
  unfold szS
  refine ⟨⟨fun z => ?_, fun z => ?_⟩, ⟨fun z => ?_, fun z => ?_⟩, fun z => ?_⟩
  · by_cases y : v 53 K = -2
    · have := q.2.2.1 y
      omega
    · by_cases x : v 53 K = -1
      · exact x
      · have := q.2.2.2 (by omega)
        omega
  · have := q.2.1 z
    omega
  · by_cases x : 0 ≤ v 53 K
    · have := q.2.2.2 x
      omega
    · omega
  · by_cases y : v 53 K = -2
    · have := q.2.2.1 y
      omega
    · have := q.2.1 (by omega)
      omega
  · rw [if_neg (by omega)]
    exact ⟨(q.2.2.2 z).1, (q.2.2.2 z).2.1⟩
theorem mr_refusal (h : rlS v) (hb : v 49 2 ≤ 50) (a i : Int) : qE L xs (d + 3) nX12_refusal [(2, 63), (0, a), (0, i)] (qS v) = some (some (0, rfS v a i), qS v) := by
  unfold rfS
  rw [e_X12_refusal, b_X12_refusal_0, ms_isShelf, qB_some, psh_some, b_X12_refusal_4, zb_0]
  by_cases g : 0 ≤ a ∧ a < 6
  · obtain ⟨K, rfl⟩ : ∃ K : Nat, a = (K : Int) := ⟨a.toNat, by omega⟩
    obtain ⟨m1, m2, m3⟩ := mS_at h hb K (by omega)
    have q := (h K (by omega)).1
    rw [if_pos g, if_pos g, Int.toNat_natCast, b_X12_refusal_9, if_pos (by omega), Int.toNat_natCast, b_X12_refusal_15]
    by_cases g1 : v 53 K = -1
    · rw [if_pos (m1.mpr g1), if_pos g1, b_X12_refusal_18]
    · rw [if_neg (fun z => g1 (m1.mp z)), if_neg g1, b_X12_refusal_21, if_pos (by omega), Int.toNat_natCast, b_X12_refusal_27]
      by_cases g2 : v 53 K = -2
      · rw [if_pos (m2.mpr (by omega)), if_pos g2, b_X12_refusal_32]
      · have m4 := (m3 (by omega)).2
        rw [if_neg (fun z => by have := m2.mp z; omega), if_neg g2, b_X12_refusal_35]
        by_cases g3 : i < 0
        · rw [if_pos g3, if_neg (by omega), b_X12_refusal_53, b_X12_refusal_55]
        · rw [if_neg g3, b_X12_refusal_39, if_pos (by omega), Int.toNat_natCast, m4, b_X12_refusal_46]
          by_cases g4 : i < szS v K
          · rw [if_pos g4, if_pos (by omega), b_X12_refusal_49, b_X12_refusal_55]
          · rw [if_neg g4, if_neg (by omega), b_X12_refusal_53, b_X12_refusal_55]
  · rw [if_neg g, if_neg g, b_X12_refusal_7]
theorem sh_ref' {K : Nat} (hK : K < 6) : refAt 56 (K : Int).toNat = some (.ofNat (57 + K)) := by
  have := sh_ref (k := (K : Int)) (by omega) (by omega)
  rw [Int.toNat_natCast] at this ⊢
  exact this
theorem sh_get' {K : Nat} (hK : K < 6) : pm_get SH (57 + K) = some (1, 1, 60) := by
  have := sh_get (k := (K : Int)) (by omega) (by omega)
  rw [Int.toNat_natCast] at this
  exact this
theorem sh_nr' {K : Nat} (hK : K < 6) (i : Nat) : refAt (57 + K) i = none := by
  have := sh_nr (k := (K : Int)) (by omega) (by omega) i
  rw [Int.toNat_natCast] at this
  exact this
theorem cr_get (h : rlS v) (K i : Nat) (hK : K < 6) (hi : (i : Int) < szS v K) : qE L xs (d + 5) nX8_get [(2, 52), (0, (K : Int)), (0, (i : Int))] (qS v) = some (some (1, v (57 + K) i), qS v) := by
  have hz := szS_in h K hK
  rw [e_X8_get, b_X8_get_0, cr_hasElements h K hK i 1 (by omega) (by decide), qB_some, psh_some, b_X8_get_7, zb_0, if_pos (by omega), b_X8_get_10]
  refine (qG_aald (c := 56) (e := 5) (n := 6) (t := 57 + K) rfl rfl (Or.inr rfl) (by omega) (by omega) (sh_ref' hK)).trans ?_
  rw [b_X8_get_16]
  refine (qG_ald2 (c := 57 + K) (e := 1) (t := 1) (n := 60) (Or.inr ⟨rfl, rfl, rfl⟩) rfl (by omega) (sh_get' hK) (by omega) (by omega) (sh_nr' hK _)).trans ?_
  rw [Int.toNat_natCast]
  show qG L xs (d + 4) CX8_get 18 _ _ _ = _
  rw [b_X8_get_18, b_X8_get_22]
/-- an element's lowest bits -/
def lbS (s z : Int) : Int := if s = 0 then w8 (w32 z) else if s = 1 then w16 (w32 z) else if s = 2 then w32 z else if s = 4 then (if z = 0 then 0 else 1) else z
theorem lbS_rng {s z : Int} (hz : -9223372036854775808 ≤ z ∧ z < 9223372036854775808) : rng s (lbS s z) := by
  have a := w32_lo z
  have b8 : -128 ≤ w8 (w32 z) ∧ w8 (w32 z) ≤ 127 := by unfold w8; omega
  have b16 : -32768 ≤ w16 (w32 z) ∧ w16 (w32 z) ≤ 32767 := by unfold w16; omega
  unfold rng lbS
  by_cases g0 : s = 0
  · rw [if_pos g0]; omega
  · rw [if_neg g0]
    by_cases g1 : s = 1
    · rw [if_pos g1]; omega
    · rw [if_neg g1]
      by_cases g2 : s = 2
      · rw [if_pos g2]; omega
      · rw [if_neg g2]
        by_cases g4 : s = 4
        · rw [if_pos g4]
          by_cases y : z = 0
          · rw [if_pos y]; omega
          · rw [if_neg y]; omega
        · rw [if_neg g4]; omega
theorem cr_bits (s z : Int) (hs : 0 ≤ s ∧ s ≤ 4) : qE L xs (d + 1) nX8_lowestBits [(0, s), (1, z)] (qS v) = some (some (1, lbS s z), qS v) := by
  unfold lbS
  have h0 : s = 0 ∨ s = 1 ∨ s = 2 ∨ s = 3 ∨ s = 4 := by omega
  rcases h0 with rfl | rfl | rfl | rfl | rfl
  · rw [e_X8_lowestBits, b_X8_lowestBits_0_v0 _ _ rfl, b_X8_lowestBits_36, if_pos rfl]
  · rw [e_X8_lowestBits, b_X8_lowestBits_0_v1 _ _ rfl, b_X8_lowestBits_41, if_neg (by decide), if_pos rfl]
  · rw [e_X8_lowestBits, b_X8_lowestBits_0_v2 _ _ rfl, b_X8_lowestBits_46, if_neg (by decide), if_neg (by decide), if_pos rfl]
  · rw [e_X8_lowestBits, b_X8_lowestBits_0_v3 _ _ rfl, b_X8_lowestBits_62, if_neg (by decide), if_neg (by decide), if_neg (by decide), if_neg (by decide)]
  · rw [if_neg (show ¬ (4 : Int) = 0 by decide), if_neg (show ¬ (4 : Int) = 1 by decide), if_neg (show ¬ (4 : Int) = 2 by decide), if_pos (show (4 : Int) = 4 from rfl), e_X8_lowestBits, b_X8_lowestBits_0_v4 _ _ rfl, b_X8_lowestBits_50, lc_eq]
    by_cases g : z = 0
    · rw [if_pos g, if_pos g, b_X8_lowestBits_60, b_X8_lowestBits_61]
    · rw [if_neg g, if_neg g, b_X8_lowestBits_56, b_X8_lowestBits_61]
theorem mr_bits (s z : Int) : qE L xs (d + 1) nX12_asSort [(0, s), (1, z)] (qS v) = some (some (1, lbS s z), qS v) := by
  unfold lbS
  rw [e_X12_asSort, b_X12_asSort_0]
  by_cases g0 : s = 0
  · rw [if_pos g0, if_pos g0, b_X12_asSort_4, b_X12_asSort_54]
  · rw [if_neg g0, if_neg g0, b_X12_asSort_11]
    by_cases g1 : s = 1
    · rw [if_pos g1, if_pos g1, b_X12_asSort_16, b_X12_asSort_54]
    · rw [if_neg g1, if_neg g1, b_X12_asSort_23]
      by_cases g2 : s = 2
      · rw [if_pos g2, if_pos g2, b_X12_asSort_28, b_X12_asSort_54]
      · rw [if_neg g2, if_neg g2, b_X12_asSort_34]
        by_cases g4 : s = 4
        · rw [if_pos g4, if_pos g4, b_X12_asSort_39, lc_eq]
          by_cases g : z = 0
          · rw [if_pos g, if_pos g, b_X12_asSort_49, b_X12_asSort_54]
          · rw [if_neg g, if_neg g, b_X12_asSort_45, b_X12_asSort_54]
        · rw [if_neg g4, if_neg g4, b_X12_asSort_53, b_X12_asSort_54]
theorem cr_set (h : rlS v) (K i : Nat) (z : Int) (hK : K < 6) (h0 : 0 ≤ v 53 K) (hi : (i : Int) < szS v K) : qE L xs (d + 5) nX8_set [(2, 52), (0, (K : Int)), (0, (i : Int)), (1, z)] (qS v) = some (none, qS (pm_up v (57 + K) i (lbS (v 53 K) z))) := by
  have hz := szS_in h K hK
  have q := (h K hK).1
  rw [e_X8_set, b_X8_set_0, cr_hasElements h K hK i 1 (by omega) (by decide), qB_some, psh_some, b_X8_set_7, zb_0, if_pos (by omega), b_X8_set_10]
  refine (qG_aald (c := 56) (e := 5) (n := 6) (t := 57 + K) rfl rfl (Or.inr rfl) (by omega) (by omega) (sh_ref' hK)).trans ?_
  rw [b_X8_set_16, if_pos (by omega), Int.toNat_natCast, b_X8_set_23, cr_bits _ _ (by omega), qB_some, psh_some]
  refine (qG_ast2 (c := 57 + K) (e := 1) (n := 60) (Or.inr ⟨rfl, rfl⟩) rfl (sh_get' hK) (by omega) (by omega) (sh_nr' hK _)).trans ?_
  rw [Int.toNat_natCast]
  show qG L xs (d + 4) CX8_set 28 _ _ _ = _
  rw [b_X8_set_28]
theorem opr_put (h : rlR v) (a b z : Int) (hb : b < 2147483648) (hz : -9223372036854775808 ≤ z ∧ z < 9223372036854775808) : opR L xs v nX11_put nX12_put 0 [(0, a), (0, b), (1, z)] := by
  have hS := h.2.2.2.2.2.2.2.1
  have hB := h.2.2.2.2.2.2.1.1
  by_cases g : rfS v a b = 0
  · have ha : 0 ≤ a ∧ a < 6 := by
      by_cases y : 0 ≤ a ∧ a < 6
      · exact y
      · unfold rfS at g
        rw [if_neg y] at g
        exact absurd g (by decide)
    obtain ⟨K, rfl⟩ : ∃ K : Nat, a = (K : Int) := ⟨a.toNat, by omega⟩
    have hK : K < 6 := by omega
    have g' := g
    unfold rfS at g'
    rw [if_pos ha, Int.toNat_natCast] at g'
    have q := hS K hK
    have n1 : v 53 K ≠ -1 := fun y => by rw [if_pos y] at g'; exact absurd g' (by decide)
    rw [if_neg n1] at g'
    have n2 : v 53 K ≠ -2 := fun y => by rw [if_pos y] at g'; exact absurd g' (by decide)
    rw [if_neg n2] at g'
    have n3 : 0 ≤ b ∧ b < szS v K := by
      by_cases y : 0 ≤ b ∧ b < szS v K
      · exact y
      · rw [if_neg y] at g'; exact absurd g' (by decide)
    obtain ⟨i, rfl⟩ : ∃ i : Nat, b = (i : Int) := ⟨b.toNat, by omega⟩
    have h0 : 0 ≤ v 53 K := by omega
    have hsz := szS_in hS K hK
    obtain ⟨m1, m2, m3⟩ := mS_at hS hB.2 K hK
    obtain ⟨w1, hw1⟩ : ∃ w1, w1 = pm_up v (57 + K) i (lbS (v 53 K) z) := ⟨_, rfl⟩
    obtain ⟨w2, hw2⟩ : ∃ w2, w2 = pm_up w1 88 (60 * K + i) (lbS (v 53 K) z) := ⟨_, rfl⟩
    have hu1 : ∀ c j, ¬ (c = 57 + K ∧ j = i) → w1 c j = v c j := fun c j q => by
      rw [hw1, up_ne (by omega)]
    have hu : ∀ c j, ¬ (c = 57 + K ∧ j = i ∨ c = 88 ∧ j = 60 * K + i) → w2 c j = v c j := fun c j q => by
      rw [hw2, up_ne (by omega), hu1 c j (by omega)]
    have hS2 : ∀ w, (∀ c j, ¬ (c = 57 + K ∧ j = i ∨ c = 88 ∧ j = 60 * K + i) → w c j = v c j) → w (57 + K) i = lbS (v 53 K) z → w 88 (60 * K + i) = lbS (v 53 K) z → rlS w := fun w hw e1 e2 => by
      refine rS_set (K := K) hK hS (fun c j q x1 x2 x3 => hw c j (by omega)) ?_
      rw [hw 53 K (by omega), hw 54 K (by omega), hw 55 K (by omega), hw 86 K (by omega), hw 87 K (by omega), hw 49 2 (by omega)]
      refine ⟨q.1, q.2.1, q.2.2.1, fun y => ?_⟩
      obtain ⟨z1, z2, z3, z4⟩ := q.2.2.2 y
      refine ⟨z1, z2, z3, fun j hj => ?_⟩
      by_cases e : j = i
      · rw [e, e1, e2]
        exact ⟨rfl, lbS_rng hz⟩
      · rw [hw 88 (60 * K + j) (by omega), hw (57 + K) j (by omega)]
        exact z4 j hj
    have rw1 : rfS w1 (K : Int) (i : Int) = 0 := by
      unfold rfS szS at g ⊢
      rw [Int.toNat_natCast] at g ⊢
      rw [hu1 53 K (by omega), hu1 55 K (by omega)]
      exact g
    refine ⟨1, w1, w2, ?_, ?_, ?_⟩
    · rw [e_X11_put, b_X11_put_0, cr_refusal hS _ _ hb, g, qB_some, psh_some, b_X11_put_9, if_pos rfl, b_X11_put_19, cr_set hS K i z hK h0 n3.2, qB_some, psh_none, ← hw1, b_X11_put_29]
    · have mref : qE L xs 999 nX12_refusal [(2, 63), (0, (K : Int)), (0, (i : Int))] (qS w1) = some (some (0, 0), qS w1) := by
        have e53 := hu1 53 K (by omega)
        rw [e_X12_refusal, b_X12_refusal_0, ms_isShelf, qB_some, psh_some, b_X12_refusal_4, zb_0, if_pos ha, b_X12_refusal_9, if_pos (by omega), Int.toNat_natCast, hu1 86 K (by omega), b_X12_refusal_15, if_neg (fun y => n1 (m1.mp y)), b_X12_refusal_21, if_pos (by omega), Int.toNat_natCast, hu1 86 K (by omega), b_X12_refusal_27, if_neg (fun y => by have := m2.mp y; omega), b_X12_refusal_35, if_neg (by omega), b_X12_refusal_39, if_pos (by omega), Int.toNat_natCast, hu1 87 K (by omega), (m3 h0).2, b_X12_refusal_46, if_pos n3.2, b_X12_refusal_49, b_X12_refusal_55]
      have i2 : w32 (w32 (60 * (K : Int)) + (i : Int)) = ((60 * K + i : Nat) : Int) := by
        rw [w32_id (z := 60 * (K : Int)) (by omega) (by omega), w32_id (by omega) (by omega)]; omega
      rw [e_X12_put, b_X12_put_0, mref, qB_some, psh_some, b_X12_put_6, if_pos rfl, b_X12_put_13, if_pos (by omega), Int.toNat_natCast, hu1 86 K (by omega), (m3 h0).1, i2, b_X12_put_29, w32_id (by omega) (by omega), show 50 + v 53 K - 50 = v 53 K by omega, mr_bits, qB_some, psh_some, b_X12_put_36, if_pos (by omega), Int.toNat_natCast, ← hw2, b_X12_put_37, if_pos rfl, b_X12_put_42, b_X12_put_48]
    · have hS3 : rlS w2 := hS2 w2 hu (by rw [hw2, up_ne (by omega), hw1, up_eq]) (by rw [hw2, up_eq])
      exact rlR_or h (Or.inr (fun c j q => hu c j (by unfold dsW at q; omega))) (Or.inr (fun c j q => hu c j (by unfold dsC at q; omega))) (Or.inr (fun c j q => hu c j (by unfold dsT at q; omega))) (Or.inr (fun c j q => hu c j (by unfold dsL at q; omega))) (Or.inr (fun c j q => hu c j (by unfold dsD at q; omega))) (Or.inr (fun c j q => hu c j (by unfold dsG at q; omega))) (Or.inr (fun c j q => hu c j (by unfold dsB at q; omega))) (Or.inl hS3) (Or.inr (fun c j q => hu c j (by unfold dsN at q; omega)))
  · refine opR_no (r := rfS v a b) h ?_ ?_
    · rw [e_X11_put, b_X11_put_0, cr_refusal hS _ _ hb, qB_some, psh_some, b_X11_put_9, if_neg g, b_X11_put_16]
    · rw [e_X12_put, b_X12_put_0, mr_refusal hS hB.2, qB_some, psh_some, b_X12_put_6, if_neg g, b_X12_put_37, if_neg g, b_X12_put_46, b_X12_put_48]
theorem opr_element (h : rlR v) (a b : Int) (hb : b < 2147483648) : opR L xs v nX11_element nX12_element 1 [(0, a), (0, b)] := by
  have hS := h.2.2.2.2.2.2.2.1
  have hB := h.2.2.2.2.2.2.1.1
  by_cases g : rfS v a b = 0
  · have ha : 0 ≤ a ∧ a < 6 := by
      by_cases y : 0 ≤ a ∧ a < 6
      · exact y
      · unfold rfS at g
        rw [if_neg y] at g
        exact absurd g (by decide)
    obtain ⟨K, rfl⟩ : ∃ K : Nat, a = (K : Int) := ⟨a.toNat, by omega⟩
    have hK : K < 6 := by omega
    have g' := g
    unfold rfS at g'
    rw [if_pos ha, Int.toNat_natCast] at g'
    have q := hS K hK
    have n1 : v 53 K ≠ -1 := fun y => by rw [if_pos y] at g'; exact absurd g' (by decide)
    rw [if_neg n1] at g'
    have n2 : v 53 K ≠ -2 := fun y => by rw [if_pos y] at g'; exact absurd g' (by decide)
    rw [if_neg n2] at g'
    have n3 : 0 ≤ b ∧ b < szS v K := by
      by_cases y : 0 ≤ b ∧ b < szS v K
      · exact y
      · rw [if_neg y] at g'; exact absurd g' (by decide)
    obtain ⟨i, rfl⟩ : ∃ i : Nat, b = (i : Int) := ⟨b.toNat, by omega⟩
    have hsz := szS_in hS K hK
    have i2 : w32 (w32 (60 * (K : Int)) + (i : Int)) = ((60 * K + i : Nat) : Int) := by
      rw [w32_id (z := 60 * (K : Int)) (by omega) (by omega), w32_id (by omega) (by omega)]; omega
    refine opR_no (r := v (57 + K) i) h ?_ ?_
    · rw [e_X11_element, b_X11_element_0, cr_refusal hS _ _ hb, g, qB_some, psh_some, b_X11_element_9, if_pos rfl, b_X11_element_18, cr_get hS K i hK n3.2, qB_some, psh_some, b_X11_element_27]
    · rw [e_X12_element, b_X12_element_0, mr_refusal hS hB.2, g, qB_some, psh_some, b_X12_element_6, if_pos rfl, b_X12_element_15, i2, if_pos (by omega), Int.toNat_natCast, ((q.2.2.2 (by omega)).2.2.2 i (by omega)).1, b_X12_element_26]
  · refine opR_no (r := -9223372036854775808) h ?_ ?_
    · rw [e_X11_element, b_X11_element_0, cr_refusal hS _ _ hb, qB_some, psh_some, b_X11_element_9, if_neg g, b_X11_element_12, b_X11_element_27]
    · rw [e_X12_element, b_X12_element_0, mr_refusal hS hB.2, qB_some, psh_some, b_X12_element_6, if_neg g, b_X12_element_9, b_X12_element_26]
end OE2
end
section
/-! CALLS that keep the relation: shift, taken (written by wip/p1/88.opsf.py) -/
section OF2
variable {L : Nat} {xs : Nat → Int} {d : Nat} {v w : Nat → Nat → Int}
theorem lpr_car {a i b j n : Nat} (ha : a < 6) (hi : i + n ≤ 60) : ∀ (m k : Nat) (v : Nat → Nat → Int), k + m = n → ∃ v', qG L xs d CX12_shift 113 [(2, 63), (0, (a : Int)), (0, (i : Int)), (0, (b : Int)), (0, (j : Int)), (0, (n : Int)), (0, (k : Int))] [] (qS v) = qG L xs d CX12_shift 147 [(2, 63), (0, (a : Int)), (0, (i : Int)), (0, (b : Int)), (0, (j : Int)), (0, (n : Int)), (0, (n : Int))] [] (qS v') ∧ (∀ c q, ¬ (c = 89 ∧ k ≤ q ∧ q < n) → v' c q = v c q) ∧ ∀ q, k ≤ q → q < n → v' 89 q = v 88 (60 * a + i + q)
  | 0, k, v, hk => by
    have e : k = n := by omega
    subst e
    refine ⟨v, ?_, fun _ _ _ => rfl, fun q h1 h2 => by omega⟩
    rw [b_X12_shift_113, if_neg (by omega)]
  | m + 1, k, v, hk => by
    obtain ⟨v', e1, e2, e3⟩ := lpr_car (b := b) (j := j) ha hi m (k + 1) (pm_up v 89 k (v 88 (60 * a + i + k))) (by omega)
    have ix : w32 (w32 (w32 (60 * (a : Int)) + (i : Int)) + (k : Int)) = ((60 * a + i + k : Nat) : Int) := by
      rw [w32_id (z := 60 * (a : Int)) (by omega) (by omega), w32_id (z := 60 * (a : Int) + (i : Int)) (by omega) (by omega), w32_id (by omega) (by omega)]; omega
    refine ⟨v', ?_, fun c q hq => ?_, fun q h1 h2 => ?_⟩
    · refine Eq.trans ?_ e1
      rw [b_X12_shift_113, if_pos (by omega), b_X12_shift_120, ix, if_pos (by omega), Int.toNat_natCast, b_X12_shift_140, if_pos (by omega), Int.toNat_natCast, b_X12_shift_141, w32_id (by omega) (by omega)]
      rfl
    · rw [e2 c q (by omega), up_ne (by omega)]
    · by_cases z : q = k
      · rw [z, e2 89 k (by omega), up_eq]
      · rw [e3 q (by omega) h2, up_ne (by omega)]
theorem lpr_put {a i b j n : Nat} (hb : b < 6) (hj : j + n ≤ 60) : ∀ (m k : Nat) (v : Nat → Nat → Int), k + m = n → ∃ v', qG L xs d CX12_shift 150 [(2, 63), (0, (a : Int)), (0, (i : Int)), (0, (b : Int)), (0, (j : Int)), (0, (n : Int)), (0, (k : Int))] [] (qS v) = some (some (0, (n : Int)), qS v') ∧ (∀ c q, ¬ (c = 88 ∧ 60 * b + j + k ≤ q ∧ q < 60 * b + j + n) → v' c q = v c q) ∧ ∀ q, k ≤ q → q < n → v' 88 (60 * b + j + q) = v 89 q
  | 0, k, v, hk => by
    have e : k = n := by omega
    subst e
    refine ⟨v, ?_, fun _ _ _ => rfl, fun q h1 h2 => by omega⟩
    rw [b_X12_shift_150, if_neg (by omega), b_X12_shift_185]
  | m + 1, k, v, hk => by
    obtain ⟨v', e1, e2, e3⟩ := lpr_put (a := a) (i := i) hb hj m (k + 1) (pm_up v 88 (60 * b + j + k) (v 89 k)) (by omega)
    have ix : w32 (w32 (w32 (60 * (b : Int)) + (j : Int)) + (k : Int)) = ((60 * b + j + k : Nat) : Int) := by
      rw [w32_id (z := 60 * (b : Int)) (by omega) (by omega), w32_id (z := 60 * (b : Int) + (j : Int)) (by omega) (by omega), w32_id (by omega) (by omega)]; omega
    refine ⟨v', ?_, fun c q hq => ?_, fun q h1 h2 => ?_⟩
    · refine Eq.trans ?_ e1
      rw [b_X12_shift_150, if_pos (by omega), b_X12_shift_157, if_pos (by omega), Int.toNat_natCast, ix, b_X12_shift_178, if_pos (by omega), Int.toNat_natCast, b_X12_shift_179, w32_id (by omega) (by omega)]
      rfl
    · rw [e2 c q (by omega), up_ne (by omega)]
    · by_cases z : q = k
      · rw [z, e2 88 (60 * b + j + k) (by omega), up_eq]
      · rw [e3 q (by omega) h2, up_ne (by omega)]
theorem cr_copy {a i b j n : Nat} (h : rlS v) (ha : a < 6) (hb : b < 6) (hi : ((i + n : Nat) : Int) ≤ szS v a) (hj : ((j + n : Nat) : Int) ≤ szS v b) : qE L xs (d + 5) nX8_copy [(2, 52), (0, (a : Int)), (0, (i : Int)), (0, (b : Int)), (0, (j : Int)), (0, (n : Int))] (qS v) = some (none, qS (pm_cpy v (57 + a) (57 + b) i j n)) := by
  have z1 := szS_in h a ha
  have z2 := szS_in h b hb
  rw [e_X8_copy, b_X8_copy_0, cr_hasElements h a ha _ _ (by omega) (by omega), qB_some, psh_some, b_X8_copy_8, zb_0, if_pos (by omega), b_X8_copy_11, cr_hasElements h b hb _ _ (by omega) (by omega), qB_some, psh_some, b_X8_copy_20, zb_0, if_pos (by omega), b_X8_copy_23]
  refine (qG_aald (c := 56) (e := 5) (n := 6) (t := 57 + a) rfl rfl (Or.inr rfl) (by omega) (by omega) (sh_ref' ha)).trans ?_
  rw [b_X8_copy_29]
  refine (qG_aald (c := 56) (e := 5) (n := 6) (t := 57 + b) rfl rfl (Or.inr rfl) (by omega) (by omega) (sh_ref' hb)).trans ?_
  rw [b_X8_copy_36]
  refine (qG_cpy (s := 57 + a) (t := 57 + b) (e := 1) (ns := 60) (nt := 60) rfl rfl (sh_get' ha) (sh_get' hb) (Or.inr rfl) (by omega) (by omega) (by omega) (by omega) (by omega) rfl (sh_nr' ha) (sh_nr' hb)).trans ?_
  rw [Int.toNat_natCast, Int.toNat_natCast, Int.toNat_natCast]
  show qG L xs (d + 4) CX8_copy 43 _ _ _ = _
  rw [b_X8_copy_43]
theorem opr_shift (h : rlR v) (a i b j n : Int) (hi : i < 2147483648) (hj : j < 2147483648) (hn : n < 2147483648) : opR L xs v nX11_shift nX12_shift 0 [(0, a), (0, i), (0, b), (0, j), (0, n)] := by
  have hS := h.2.2.2.2.2.2.2.1
  have hB := h.2.2.2.2.2.2.1.1
  by_cases g : (0 ≤ a ∧ a < 6) ∧ 0 ≤ b ∧ b < 6
  · obtain ⟨A, rfl⟩ : ∃ A : Nat, a = (A : Int) := ⟨a.toNat, by omega⟩
    obtain ⟨B, rfl⟩ : ∃ B : Nat, b = (B : Int) := ⟨b.toNat, by omega⟩
    have hA6 : A < 6 := by omega
    have hB6 : B < 6 := by omega
    obtain ⟨m1, m2, m3⟩ := mS_at hS hB.2 A hA6
    obtain ⟨n1, n2, n3⟩ := mS_at hS hB.2 B hB6
    have zA := szS_in hS A hA6
    have zB := szS_in hS B hB6
    have cb : qE L xs 1000 nX11_shift [(2, 0), (0, (A : Int)), (0, i), (0, (B : Int)), (0, j), (0, n)] (qS v) = (if v 53 A = -1 ∨ v 53 B = -1 then some (some (0, -11), qS v) else qG L xs 999 CX11_shift 41 [(2, 0), (0, (A : Int)), (0, i), (0, (B : Int)), (0, j), (0, n)] [] (qS v)) := by
      rw [e_X11_shift, b_X11_shift_0, cs_has, qB_some, psh_some, b_X11_shift_4, zb_0, if_pos g.1, b_X11_shift_7, cs_has, qB_some, psh_some, b_X11_shift_11, zb_0, if_pos g.2, b_X11_shift_16, cr_isEmpty A hA6, qB_some, psh_some, b_X11_shift_24, zb_0]
      by_cases y : v 53 A = -1
      · rw [if_pos y, if_pos (Or.inl y), b_X11_shift_38]
      · rw [if_neg y, b_X11_shift_27, cr_isEmpty B hB6, qB_some, psh_some, b_X11_shift_35, zb_0]
        by_cases y2 : v 53 B = -1
        · rw [if_pos y2, if_pos (Or.inr y2), b_X11_shift_38]
        · rw [if_neg y2, if_neg (by omega)]
    have mb : ∀ w : Nat → Nat → Int, w 86 = v 86 → qE L xs 1000 nX12_shift [(2, 63), (0, (A : Int)), (0, i), (0, (B : Int)), (0, j), (0, n)] (qS w) = (if v 53 A = -1 ∨ v 53 B = -1 then some (some (0, -11), qS w) else qG L xs 999 CX12_shift 37 [(2, 63), (0, (A : Int)), (0, i), (0, (B : Int)), (0, j), (0, n), (9, 0)] [] (qS w)) := fun w hw => by
      rw [e_X12_shift, b_X12_shift_0, ms_isShelf, qB_some, psh_some, b_X12_shift_4, zb_0, if_pos g.1, b_X12_shift_7, ms_isShelf, qB_some, psh_some, b_X12_shift_11, zb_0, if_pos g.2, b_X12_shift_16, if_pos (by omega), Int.toNat_natCast, hw, b_X12_shift_22]
      by_cases y : v 53 A = -1
      · rw [if_pos (m1.mpr y), if_pos (Or.inl y), b_X12_shift_34]
      · rw [if_neg (fun z => y (m1.mp z)), b_X12_shift_25, if_pos (by omega), Int.toNat_natCast, hw, b_X12_shift_31]
        by_cases y2 : v 53 B = -1
        · rw [if_pos (n1.mpr y2), if_pos (Or.inr y2), b_X12_shift_34]
        · rw [if_neg (fun z => y2 (n1.mp z)), if_neg (by omega)]
    by_cases y : v 53 A = -1 ∨ v 53 B = -1
    · refine opR_no (r := -11) h ?_ ?_
      · rw [cb, if_pos y]
      · rw [mb v rfl, if_pos y]
    · have c2 : qE L xs 999 nX8_holdRowsAlike [(2, 52), (0, (A : Int)), (0, (B : Int))] (qS v) = some (some (0, zb (0 ≤ v 53 A ∧ v 53 A = v 53 B)), qS v) := by
        rw [e_X8_holdRowsAlike, b_X8_holdRowsAlike_0, cr_sortOf A hA6, qB_some, psh_some, b_X8_holdRowsAlike_5]
        by_cases x : v 53 A < 0
        · rw [if_pos x, b_X8_holdRowsAlike_25, b_X8_holdRowsAlike_26, if_pos (by decide), zb_f (by omega)]
        · rw [if_neg x, b_X8_holdRowsAlike_8, cr_sortOf A hA6, qB_some, psh_some, b_X8_holdRowsAlike_13, cr_sortOf B hB6, qB_some, psh_some, b_X8_holdRowsAlike_18]
          by_cases x2 : v 53 A = v 53 B
          · rw [if_pos x2, b_X8_holdRowsAlike_21, b_X8_holdRowsAlike_26, if_pos (by decide), zb_t (by omega)]
          · rw [if_neg x2, b_X8_holdRowsAlike_25, b_X8_holdRowsAlike_26, if_pos (by decide), zb_f (by omega)]
      by_cases x : 0 ≤ v 53 A ∧ v 53 A = v 53 B
      · have mA := m3 x.1
        have mB := n3 (by omega)
        have mk : ∀ w : Nat → Nat → Int, w 86 = v 86 → w 87 = v 87 → qG L xs 999 CX12_shift 37 [(2, 63), (0, (A : Int)), (0, i), (0, (B : Int)), (0, j), (0, n), (9, 0)] [] (qS w) = (if 0 ≤ n ∧ 0 ≤ i ∧ 0 ≤ j ∧ i + n ≤ szS v A ∧ j + n ≤ szS v B then qG L xs 999 CX12_shift 110 [(2, 63), (0, (A : Int)), (0, i), (0, (B : Int)), (0, j), (0, n), (9, 0)] [] (qS w) else some (some (0, -13), qS w)) := fun w h86 h87 => by
          rw [b_X12_shift_37, if_pos (by omega), Int.toNat_natCast, h86, b_X12_shift_43, if_neg (by omega), b_X12_shift_48, if_pos (by omega), Int.toNat_natCast, h86, b_X12_shift_54, if_pos (by omega), Int.toNat_natCast, h86, b_X12_shift_60, if_pos (by omega), b_X12_shift_66]
          by_cases t1 : n < 0
          · rw [if_pos t1, if_neg (by omega), b_X12_shift_107]
          · rw [if_neg t1, b_X12_shift_71]
            by_cases t2 : i < 0
            · rw [if_pos t2, if_neg (by omega), b_X12_shift_107]
            · rw [if_neg t2, b_X12_shift_75]
              by_cases t3 : j < 0
              · rw [if_pos t3, if_neg (by omega), b_X12_shift_107]
              · rw [if_neg t3, b_X12_shift_80, if_pos (by omega), Int.toNat_natCast, h87, mA.2, b_X12_shift_87, w32_id (by omega) (by omega)]
                by_cases t4 : szS v A - n < i
                · rw [if_pos t4, if_neg (by omega), b_X12_shift_107]
                · rw [if_neg t4, b_X12_shift_93, if_pos (by omega), Int.toNat_natCast, h87, mB.2, b_X12_shift_101, w32_id (by omega) (by omega)]
                  by_cases t5 : szS v B - n < j
                  · rw [if_pos t5, if_neg (by omega), b_X12_shift_107]
                  · rw [if_neg t5, if_pos (by omega)]
        have ck : qG L xs 999 CX11_shift 41 [(2, 0), (0, (A : Int)), (0, i), (0, (B : Int)), (0, j), (0, n)] [] (qS v) = (if 0 ≤ n ∧ 0 ≤ i ∧ 0 ≤ j ∧ i + n ≤ szS v A ∧ j + n ≤ szS v B then qG L xs 999 CX11_shift 93 [(2, 0), (0, (A : Int)), (0, i), (0, (B : Int)), (0, j), (0, n)] [] (qS v) else some (some (0, -13), qS v)) := by
          rw [b_X11_shift_41, c2, qB_some, psh_some, b_X11_shift_50, zb_0, if_pos x, b_X11_shift_56]
          by_cases t1 : n < 0
          · rw [if_pos t1, if_neg (by omega), b_X11_shift_90]
          · rw [if_neg t1, b_X11_shift_61, cr_hasElements hS A hA6 i n hi hn, qB_some, psh_some, b_X11_shift_72, zb_0]
            by_cases t2 : 0 ≤ i ∧ 0 ≤ n ∧ i + n ≤ szS v A
            · rw [if_pos t2, b_X11_shift_75, cr_hasElements hS B hB6 j n hj hn, qB_some, psh_some, b_X11_shift_87, zb_0]
              by_cases t3 : 0 ≤ j ∧ 0 ≤ n ∧ j + n ≤ szS v B
              · rw [if_pos t3, if_pos (by omega)]
              · rw [if_neg t3, if_neg (by omega), b_X11_shift_90]
            · rw [if_neg t2, if_neg (by omega), b_X11_shift_90]
        by_cases t : 0 ≤ n ∧ 0 ≤ i ∧ 0 ≤ j ∧ i + n ≤ szS v A ∧ j + n ≤ szS v B
        · obtain ⟨I, rfl⟩ : ∃ I : Nat, i = (I : Int) := ⟨i.toNat, by omega⟩
          obtain ⟨J, rfl⟩ : ∃ J : Nat, j = (J : Int) := ⟨j.toNat, by omega⟩
          obtain ⟨N, rfl⟩ : ∃ N : Nat, n = (N : Int) := ⟨n.toNat, by omega⟩
          obtain ⟨w1, hw1⟩ : ∃ w1, w1 = pm_cpy v (57 + A) (57 + B) I J N := ⟨_, rfl⟩
          have hu1 : ∀ c q, ¬ (c = 57 + B ∧ J ≤ q ∧ q < J + N) → w1 c q = v c q := fun c q y => by
            rw [hw1]; exact if_neg (by omega)
          have hv1 : ∀ q, J ≤ q → q < J + N → w1 (57 + B) q = v (57 + A) (I + (q - J)) := fun q y1 y2 => by
            rw [hw1]; exact if_pos (by omega)
          obtain ⟨w2, e1, e2, e3⟩ := lpr_car (L := L) (xs := xs) (d := 999) (a := A) (i := I) (b := B) (j := J) (n := N) hA6 (by omega) N 0 w1 (by omega)
          obtain ⟨w3, e4, e5, e6⟩ := lpr_put (L := L) (xs := xs) (d := 999) (a := A) (i := I) (b := B) (j := J) (n := N) hB6 (by omega) N 0 w2 (by omega)
          have hu : ∀ c q, ¬ (c = 57 + B ∧ J ≤ q ∧ q < J + N ∨ c = 89 ∨ c = 88 ∧ 60 * B + J ≤ q ∧ q < 60 * B + J + N) → w3 c q = v c q := fun c q y => by
            rw [e5 c q (by omega), e2 c q (by omega), hu1 c q (by omega)]
          refine ⟨(N : Int), w1, w3, ?_, ?_, ?_⟩
          · rw [cb, if_neg y, ck, if_pos t, b_X11_shift_93, cr_copy hS hA6 hB6 (by omega) (by omega), qB_some, psh_none, ← hw1, b_X11_shift_107]
          · rw [mb w1 (funext (fun q => hu1 86 q (by omega))), if_neg y, mk w1 (funext (fun q => hu1 86 q (by omega))) (funext (fun q => hu1 87 q (by omega))), if_pos t, b_X12_shift_110]
            refine Eq.trans e1 ?_
            rw [b_X12_shift_147]
            exact e4
          · have hS3 : rlS w3 := by
              refine rS_set (K := B) hB6 hS (fun c q x0 x1 x2 x3 => hu c q (by unfold dsS at x0; omega)) ?_
              have q := hS B hB6
              have qA := hS A hA6
              rw [hu 53 B (by omega), hu 54 B (by omega), hu 55 B (by omega), hu 86 B (by omega), hu 87 B (by omega), hu 49 2 (by omega)]
              refine ⟨q.1, q.2.1, q.2.2.1, fun s => ?_⟩
              obtain ⟨z1, z2, z3, z4⟩ := q.2.2.2 s
              obtain ⟨u1, u2, u3, u4⟩ := qA.2.2.2 x.1
              refine ⟨z1, z2, z3, fun p hp => ?_⟩
              by_cases r : J ≤ p ∧ p < J + N
              · have r1 : w3 (57 + B) p = v (57 + A) (I + (p - J)) := by
                  rw [e5 (57 + B) p (by omega), e2 (57 + B) p (by omega), hv1 p r.1 r.2]
                have r2 : w3 88 (60 * B + p) = v 88 (60 * A + (I + (p - J))) := by
                  have a1 := e6 (p - J) (by omega) (by omega)
                  rw [show 60 * B + J + (p - J) = 60 * B + p by omega] at a1
                  rw [a1, e3 (p - J) (by omega) (by omega), show 60 * A + I + (p - J) = 60 * A + (I + (p - J)) by omega, hu1 88 _ (by omega)]
                have r3 := u4 (I + (p - J)) (by omega)
                rw [r1, r2, r3.1, ← x.2]
                exact ⟨rfl, r3.2⟩
              · rw [hu 88 (60 * B + p) (by omega), hu (57 + B) p (by omega)]
                exact z4 p hp
            exact rlR_or h (Or.inr (fun c j q => hu c j (by unfold dsW at q; omega))) (Or.inr (fun c j q => hu c j (by unfold dsC at q; omega))) (Or.inr (fun c j q => hu c j (by unfold dsT at q; omega))) (Or.inr (fun c j q => hu c j (by unfold dsL at q; omega))) (Or.inr (fun c j q => hu c j (by unfold dsD at q; omega))) (Or.inr (fun c j q => hu c j (by unfold dsG at q; omega))) (Or.inr (fun c j q => hu c j (by unfold dsB at q; omega))) (Or.inl hS3) (Or.inr (fun c j q => hu c j (by unfold dsN at q; omega)))
        · refine opR_no (r := -13) h ?_ ?_
          · rw [cb, if_neg y, ck, if_neg t]
          · rw [mb v rfl, if_neg y, mk v rfl rfl, if_neg t]
      · refine opR_no (r := -12) h ?_ ?_
        · rw [cb, if_neg y, b_X11_shift_41, c2, qB_some, psh_some, b_X11_shift_50, zb_0, if_neg x, b_X11_shift_53]
        · rw [mb v rfl, if_neg y, b_X12_shift_37, if_pos (by omega), Int.toNat_natCast, b_X12_shift_43]
          by_cases x1 : v 53 A < 0
          · rw [if_pos (m2.mpr x1), b_X12_shift_63]
          · have mA := m3 (by omega)
            rw [if_neg (fun z => x1 (m2.mp z)), b_X12_shift_48, if_pos (by omega), Int.toNat_natCast, b_X12_shift_54, if_pos (by omega), Int.toNat_natCast, b_X12_shift_60, if_neg (fun z => ?_), b_X12_shift_63]
            have : ¬ v 86 B < 50 := by omega
            have x2 : 0 ≤ v 53 B := by
              by_cases s : v 53 B < 0
              · exact absurd (n2.mpr s) this
              · omega
            have mB := n3 x2
            omega
  · refine opR_no (r := -1) h ?_ ?_
    · rw [e_X11_shift, b_X11_shift_0, cs_has, qB_some, psh_some, b_X11_shift_4, zb_0]
      by_cases g1 : 0 ≤ a ∧ a < 6
      · rw [if_pos g1, b_X11_shift_7, cs_has, qB_some, psh_some, b_X11_shift_11, zb_0, if_neg (by omega), b_X11_shift_14]
      · rw [if_neg g1, b_X11_shift_14]
    · rw [e_X12_shift, b_X12_shift_0, ms_isShelf, qB_some, psh_some, b_X12_shift_4, zb_0]
      by_cases g1 : 0 ≤ a ∧ a < 6
      · rw [if_pos g1, b_X12_shift_7, ms_isShelf, qB_some, psh_some, b_X12_shift_11, zb_0, if_neg (by omega), b_X12_shift_14]
      · rw [if_neg g1, b_X12_shift_14]
/-- KINDS: which is above; whether under -/
def kaI (k : Int) : Int := if k = 1 ∨ k = 2 ∨ k = 6 then 0 else if k = 3 then 2 else if k = 4 then 1 else if k = 5 then 3 else if k = 7 then 4 else -1
def iuF (t : Int) : Nat → Int → Int
  | 0, _ => 0
  | n + 1, k => if 0 ≤ k ∧ k < 8 then (if k = t then 1 else iuF t n (kaI k)) else 0
theorem cr_kindAbove (k : Int) (hk : 0 ≤ k ∧ k < 8) : qE L xs (d + 2) nX0_kindAbove [(0, k)] (qS v) = some (some (0, kaI k), qS v) := by
  have h0 : k = 0 ∨ k = 1 ∨ k = 2 ∨ k = 3 ∨ k = 4 ∨ k = 5 ∨ k = 6 ∨ k = 7 := by omega
  rcases h0 with rfl | rfl | rfl | rfl | rfl | rfl | rfl | rfl <;> (rw [e_X0_kindAbove, b_X0_kindAbove_0, cb_hasKind, qB_some, psh_some, b_X0_kindAbove_4, zb_0, if_pos hk, b_X0_kindAbove_7, if_pos hk, b_X0_kindAbove_12, b_X0_kindAbove_16]; rfl)
theorem lpr_under (x0 t : Int) : ∀ (n j : Nat) (k : Int), j + n = 8 → qG L xs (d + 2) CX0_isUnder 4 [(0, x0), (0, t), (0, k), (0, (j : Int))] [] (qS v) = some (some (0, iuF t n k), qS v)
  | 0, j, k, hj => by
    rw [b_X0_isUnder_4, if_neg (by omega), b_X0_isUnder_37]
    rfl
  | n + 1, j, k, hj => by
    unfold iuF
    rw [b_X0_isUnder_4, if_pos (by omega), b_X0_isUnder_12, cb_hasKind, qB_some, psh_some, b_X0_isUnder_16, zb_0]
    by_cases g : 0 ≤ k ∧ k < 8
    · rw [if_pos g, if_pos g, b_X0_isUnder_19]
      by_cases g2 : k = t
      · rw [if_pos g2, if_pos g2, b_X0_isUnder_24]
      · have ih := lpr_under x0 t n (j + 1) (kaI k) (by omega)
        rw [if_neg g2, if_neg g2, b_X0_isUnder_26, cr_kindAbove k g, qB_some, psh_some, b_X0_isUnder_30, w32_id (by omega) (by omega)]
        exact ih
    · rw [if_neg g, if_neg g, b_X0_isUnder_37]
theorem cr_isUnder (k t : Int) : qE L xs (d + 3) nX0_isUnder [(0, k), (0, t)] (qS v) = some (some (0, iuF t 8 k), qS v) := by
  rw [e_X0_isUnder, b_X0_isUnder_0]
  exact lpr_under k t 8 0 k (by omega)
theorem cr_kindOf (h : rlB v) (i : Nat) (hi : (i : Int) < v 49 2) : qE L xs (d + 2) nX0_kindOf [(2, 49), (0, (i : Int))] (qS v) = some (some (0, v 50 i), qS v) := by
  have h1 := h.1
  rw [e_X0_kindOf, b_X0_kindOf_0, cb_has _ (by omega), qB_some, psh_some, b_X0_kindOf_5, zb_0, if_pos (by omega), b_X0_kindOf_8, if_pos (by omega), Int.toNat_natCast, b_X0_kindOf_14, b_X0_kindOf_18]
theorem mr_kindOf (h : rlB v) (i : Nat) (hi : (i : Int) < v 49 2) : qE L xs (d + 1) nX12_kindOf [(2, 63), (0, (i : Int))] (qS v) = some (some (0, v 50 i), qS v) := by
  have h1 := h.1
  have h2 := h.2.2.1 i hi
  rw [e_X12_kindOf, b_X12_kindOf_0, if_pos (by omega), Int.toNat_natCast, b_X12_kindOf_6, h2.1]
def abI (k : Int) : Int := if k = 3 then 2 else if k = 4 then 1 else if k = 5 then 3 else if k = 7 then 4 else 0
theorem mr_above (k : Int) : qE L xs (d + 1) nX12_above [(0, k)] (qS v) = some (some (0, abI k), qS v) := by
  unfold abI
  rw [e_X12_above, b_X12_above_0]
  by_cases g3 : k = 3
  · rw [if_pos g3, if_pos g3, b_X12_above_5, b_X12_above_38]
  · rw [if_neg g3, if_neg g3, b_X12_above_9]
    by_cases g4 : k = 4
    · rw [if_pos g4, if_pos g4, b_X12_above_14, b_X12_above_38]
    · rw [if_neg g4, if_neg g4, b_X12_above_18]
      by_cases g5 : k = 5
      · rw [if_pos g5, if_pos g5, b_X12_above_23, b_X12_above_38]
      · rw [if_neg g5, if_neg g5, b_X12_above_27]
        by_cases g7 : k = 7
        · rw [if_pos g7, if_pos g7, b_X12_above_33, b_X12_above_38]
        · rw [if_neg g7, if_neg g7, b_X12_above_37, b_X12_above_38]
def muF (t : Int) : Nat → Int → Int
  | 0, z => z
  | n + 1, z => if z = t ∨ ¬ 0 < z then z else muF t n (abI z)
theorem lpr_taken (a t : Int) : ∀ (n : Nat) (z : Int), (muF t n z = t ∨ ¬ 0 < muF t n z) → qG L xs (d + 1) CX12_taken 58 [(2, 63), (0, a), (0, t), (0, z)] [] (qS v) = qG L xs (d + 1) CX12_taken 75 [(2, 63), (0, a), (0, t), (0, muF t n z)] [] (qS v)
  | 0, z, h => by
    have h' : z = t ∨ ¬ 0 < z := h
    show _ = qG L xs (d + 1) CX12_taken 75 [(2, 63), (0, a), (0, t), (0, z)] [] (qS v)
    rw [b_X12_taken_58]
    by_cases g : z = t
    · rw [if_pos g]
    · rw [if_neg g, b_X12_taken_63, if_neg (by omega)]
  | n + 1, z, h => by
    unfold muF at h ⊢
    by_cases g0 : z = t ∨ ¬ 0 < z
    · rw [if_pos g0, b_X12_taken_58]
      by_cases g : z = t
      · rw [if_pos g]
      · rw [if_neg g, b_X12_taken_63, if_neg (by omega)]
    · rw [if_neg g0] at h ⊢
      have ih := lpr_taken a t n (abI z) h
      rw [b_X12_taken_58, if_neg (by omega), b_X12_taken_63, if_pos (by omega), b_X12_taken_67, mr_above, qB_some, psh_some, b_X12_taken_71]
      exact ih
theorem under_eq : ∀ i, i < 8 → ∀ j, j < 8 → (muF ((j : Nat) : Int) 8 ((i : Nat) : Int) = ((j : Nat) : Int) ∨ ¬ 0 < muF ((j : Nat) : Int) 8 ((i : Nat) : Int)) ∧ (iuF ((j : Nat) : Int) 8 ((i : Nat) : Int) = if muF ((j : Nat) : Int) 8 ((i : Nat) : Int) = ((j : Nat) : Int) then 1 else 0) := by decide +kernel
theorem opr_taken (h : rlR v) (a t : Int) : opR L xs v nX11_taken nX12_taken 0 [(0, a), (0, t)] := by
  have hS := h.2.2.2.2.2.2.2.1
  have hB := h.2.2.2.2.2.2.1
  by_cases g : (0 ≤ a ∧ a < 6) ∧ 0 ≤ t ∧ t < 8
  · obtain ⟨K, rfl⟩ : ∃ K : Nat, a = (K : Int) := ⟨a.toNat, by omega⟩
    obtain ⟨T, rfl⟩ : ∃ T : Nat, t = (T : Int) := ⟨t.toNat, by omega⟩
    have hK : K < 6 := by omega
    obtain ⟨m1, m2, m3⟩ := mS_at hS hB.1.2 K hK
    have q := hS K hK
    by_cases y : v 53 K = -1
    · refine opR_no (r := -11) h ?_ ?_
      · rw [e_X11_taken, b_X11_taken_0, cs_has, qB_some, psh_some, b_X11_taken_4, zb_0, if_pos g.1, b_X11_taken_7, cb_hasKind, qB_some, psh_some, b_X11_taken_11, zb_0, if_pos g.2, b_X11_taken_16, cr_isEmpty K hK, qB_some, psh_some, b_X11_taken_24, zb_0, if_pos y, b_X11_taken_27]
      · rw [e_X12_taken, b_X12_taken_0, ms_isShelf, qB_some, psh_some, b_X12_taken_4, zb_0, if_pos g.1, b_X12_taken_7, c_within, qB_some, psh_some, b_X12_taken_16, zb_0, if_pos (by omega), b_X12_taken_21, if_pos (by omega), Int.toNat_natCast, b_X12_taken_27, if_pos (m1.mpr y), b_X12_taken_30]
    · have cb : qE L xs 1000 nX11_taken [(2, 0), (0, (K : Int)), (0, (T : Int))] (qS v) = qG L xs 999 CX11_taken 30 [(2, 0), (0, (K : Int)), (0, (T : Int)), (9, 0)] [] (qS v) := by
        rw [e_X11_taken, b_X11_taken_0, cs_has, qB_some, psh_some, b_X11_taken_4, zb_0, if_pos g.1, b_X11_taken_7, cb_hasKind, qB_some, psh_some, b_X11_taken_11, zb_0, if_pos g.2, b_X11_taken_16, cr_isEmpty K hK, qB_some, psh_some, b_X11_taken_24, zb_0, if_neg y]
      have mb : qE L xs 1000 nX12_taken [(2, 63), (0, (K : Int)), (0, (T : Int))] (qS v) = qG L xs 999 CX12_taken 33 [(2, 63), (0, (K : Int)), (0, (T : Int)), (9, 0)] [] (qS v) := by
        rw [e_X12_taken, b_X12_taken_0, ms_isShelf, qB_some, psh_some, b_X12_taken_4, zb_0, if_pos g.1, b_X12_taken_7, c_within, qB_some, psh_some, b_X12_taken_16, zb_0, if_pos (by omega), b_X12_taken_21, if_pos (by omega), Int.toNat_natCast, b_X12_taken_27, if_neg (fun z => y (m1.mp z))]
      by_cases y2 : v 53 K = -2
      · obtain ⟨z1, z2, z3⟩ := q.2.2.1 y2
        obtain ⟨B, hBB⟩ : ∃ B : Nat, v 54 K = (B : Int) := ⟨(v 54 K).toNat, by omega⟩
        have kb := hB.2.2.1 B (by omega)
        obtain ⟨I, hI⟩ : ∃ I : Nat, v 50 B = (I : Int) := ⟨(v 50 B).toNat, by omega⟩
        have ue := under_eq I (by omega) T (by omega)
        have l1 := lpr_taken (L := L) (xs := xs) (d := 998) (v := v) (K : Int) (T : Int) 8 (I : Int) ue.1
        refine opR_no (r := if muF (T : Int) 8 (I : Int) = (T : Int) then (I : Int) else -12) h ?_ ?_
        · have bo : qE L xs 999 nX8_brickOn [(2, 52), (0, (K : Int))] (qS v) = some (some (0, (B : Int)), qS v) := by
            rw [e_X8_brickOn, b_X8_brickOn_0, cr_holdsBrick K hK, qB_some, psh_some, b_X8_brickOn_5, zb_0, if_pos y2, b_X8_brickOn_8, if_pos (by omega), Int.toNat_natCast, hBB, b_X8_brickOn_14, b_X8_brickOn_18]
          rw [cb, b_X11_taken_30, cr_holdsBrick K hK, qB_some, psh_some, b_X11_taken_38, zb_0, if_pos y2, b_X11_taken_41, bo, qB_some, psh_some, b_X11_taken_53, cr_kindOf hB B (by omega), hI, qB_some, psh_some, b_X11_taken_56, b_X11_taken_60, cr_isUnder, ue.2, qB_some, psh_some, b_X11_taken_66]
          by_cases x : muF (T : Int) 8 (I : Int) = (T : Int)
          · rw [if_pos x, if_neg (by decide), if_pos x, b_X11_taken_69, b_X11_taken_75]
          · rw [if_neg x, if_pos rfl, if_neg x, b_X11_taken_73, b_X11_taken_75]
        · rw [mb, b_X12_taken_33, if_pos (by omega), Int.toNat_natCast, b_X12_taken_39, if_pos (by omega), b_X12_taken_47, if_pos (by omega), Int.toNat_natCast, b_X12_taken_54, z1, hBB, mr_kindOf hB B (by omega), hI, qB_some, psh_some, b_X12_taken_57]
          refine Eq.trans l1 ?_
          rw [b_X12_taken_75]
          by_cases x : muF (T : Int) 8 (I : Int) = (T : Int)
          · rw [if_pos x, if_pos x, b_X12_taken_80, if_pos (by omega), Int.toNat_natCast, b_X12_taken_87, z1, hBB, mr_kindOf hB B (by omega), hI, qB_some, psh_some, b_X12_taken_90, b_X12_taken_95]
          · rw [if_neg x, if_neg x, b_X12_taken_93, b_X12_taken_95]
      · have m4 := m3 (by omega)
        refine opR_no (r := -12) h ?_ ?_
        · rw [cb, b_X11_taken_30, cr_holdsBrick K hK, qB_some, psh_some, b_X11_taken_38, zb_0, if_neg y2, b_X11_taken_59, b_X11_taken_60, cr_isUnder, show iuF (T : Int) 8 (-1) = 0 from if_neg (by omega), qB_some, psh_some, b_X11_taken_66, if_pos rfl, b_X11_taken_73, b_X11_taken_75]
        · rw [mb, b_X12_taken_33, if_pos (by omega), Int.toNat_natCast, b_X12_taken_39, if_neg (by omega), b_X12_taken_44]
  · refine opR_no (r := -1) h ?_ ?_
    · rw [e_X11_taken, b_X11_taken_0, cs_has, qB_some, psh_some, b_X11_taken_4, zb_0]
      by_cases g1 : 0 ≤ a ∧ a < 6
      · rw [if_pos g1, b_X11_taken_7, cb_hasKind, qB_some, psh_some, b_X11_taken_11, zb_0, if_neg (by omega), b_X11_taken_14]
      · rw [if_neg g1, b_X11_taken_14]
    · rw [e_X12_taken, b_X12_taken_0, ms_isShelf, qB_some, psh_some, b_X12_taken_4, zb_0]
      by_cases g1 : 0 ≤ a ∧ a < 6
      · rw [if_pos g1, b_X12_taken_7, c_within, qB_some, psh_some, b_X12_taken_16, zb_0, if_neg (by omega), b_X12_taken_19]
      · rw [if_neg g1, b_X12_taken_19]
end OF2
end
section
/-! A NUMBER OF THE WALL that changes: change() and becomes(), side by side; mend, undo, redo -/
section OG3
variable {L : Nat} {xs : Nat → Int} {d : Nat} {u v w : Nat → Nat → Int} {k n : Nat}
/-- the program's cells of u, the reference's of v -/
def mix (u v : Nat → Nat → Int) : Nat → Nat → Int := fun c k => if c < 63 then u c k else v c k
theorem mx_u {c k : Nat} (h : c < 63) : mix u v c k = u c k := if_pos h
theorem mx_v {c k : Nat} (h : 63 ≤ c) : mix u v c k = v c k := if_neg (by omega)
theorem mx_out (h : ∀ c k, 63 ≤ c → u c k = v c k) : mix v u = v := by
  funext c k
  unfold mix
  by_cases g : c < 63
  · rw [if_pos g]
  · rw [if_neg g]
    exact h c k (by omega)
theorem mx_in (h : ∀ c k, c < 63 → w c k = u c k) : mix u w = w := by
  funext c k
  unfold mix
  by_cases g : c < 63
  · rw [if_pos g]
    exact (h c k g).symm
  · rw [if_neg g]
theorem cr_allows (hk : k < 12) (z : Int) : qE L xs (d + 1) nX9_allows [(0, (k : Int)), (0, z)] (qS v) = some (some (0, zb (lo k ≤ z ∧ z ≤ hi k)), qS v) := by
  rcases k12 hk with rfl | rfl | rfl | rfl | rfl | rfl | rfl | rfl | rfl | rfl | rfl | rfl
  · exact c_allows_0 z
  · exact c_allows_1 z
  · exact c_allows_2 z
  · exact c_allows_3 z
  · exact c_allows_4 z
  · exact c_allows_5 z
  · exact c_allows_6 z
  · exact c_allows_7 z
  · exact c_allows_8 z
  · exact c_allows_9 z
  · exact c_allows_10 z
  · exact c_allows_11 z
theorem mr_may (hk : k < 12) (z : Int) : qE L xs (d + 2) nX12_mayBecome [(0, (k : Int)), (1, z)] (qS v) = some (some (0, zb (lo k ≤ z ∧ z ≤ hi k)), qS v) := by
  rcases k12 hk with rfl | rfl | rfl | rfl | rfl | rfl | rfl | rfl | rfl | rfl | rfl | rfl
  · exact m_may_0 z
  · exact m_may_1 z
  · exact m_may_2 z
  · exact m_may_3 z
  · exact m_may_4 z
  · exact m_may_5 z
  · exact m_may_6 z
  · exact m_may_7 z
  · exact m_may_8 z
  · exact m_may_9 z
  · exact m_may_10 z
  · exact m_may_11 z
/-- the first change forgotten -/
def fgC (u : Nat → Nat → Int) : Nat → Nat → Int := pm_up (pm_cpy (pm_cpy (pm_cpy (pm_cpy u 19 19 1 0 39) 20 20 1 0 39) 21 21 1 0 39) 22 22 1 0 39) 18 4 39
theorem fgC_in {c i : Nat} (hc : 19 ≤ c ∧ c ≤ 22) (hi : i < 39) : fgC u c i = u c (i + 1) := by
  unfold fgC
  rw [up_ne (by omega)]
  have : c = 19 ∨ c = 20 ∨ c = 21 ∨ c = 22 := by omega
  rcases this with rfl | rfl | rfl | rfl
  · rw [pm_cpy_ne _ (by omega), pm_cpy_ne _ (by omega), pm_cpy_ne _ (by omega)]
    exact (if_pos (by omega)).trans (by rw [show 1 + (i - 0) = i + 1 by omega])
  · rw [pm_cpy_ne _ (by omega), pm_cpy_ne _ (by omega)]
    refine (if_pos (by omega)).trans ?_
    rw [pm_cpy_ne _ (by omega), show 1 + (i - 0) = i + 1 by omega]
  · rw [pm_cpy_ne _ (by omega)]
    refine (if_pos (by omega)).trans ?_
    rw [pm_cpy_ne _ (by omega), pm_cpy_ne _ (by omega), show 1 + (i - 0) = i + 1 by omega]
  · refine (if_pos (by omega)).trans ?_
    rw [pm_cpy_ne _ (by omega), pm_cpy_ne _ (by omega), pm_cpy_ne _ (by omega), show 1 + (i - 0) = i + 1 by omega]
theorem fgC_ne {c i : Nat} (hc : ¬ (19 ≤ c ∧ c ≤ 22)) (h18 : ¬ (c = 18 ∧ i = 4)) : fgC u c i = u c i := by
  unfold fgC
  rw [up_ne (by omega), pm_cpy_ne _ (by omega), pm_cpy_ne _ (by omega), pm_cpy_ne _ (by omega), pm_cpy_ne _ (by omega)]
theorem fgC_4 : fgC u 18 4 = 39 := up_eq _ _ _ _
theorem cr_forget : qE L xs (d + 1) nX1_forgetFirst [(2, 18)] (qS u) = some (none, qS (fgC u)) := by
  rw [e_X1_forgetFirst, b_X1_forgetFirst_0]
  refine (qG_cpy (s := 19) (t := 19) (e := 0) (ns := 40) (nt := 40) rfl rfl rfl rfl (Or.inl rfl) (by omega) (by omega) (by omega) (by omega) (by omega) rfl (nr_of rfl) (nr_of rfl)).trans ?_
  rw [b_X1_forgetFirst_15]
  refine (qG_cpy (s := 20) (t := 20) (e := 0) (ns := 40) (nt := 40) rfl rfl rfl rfl (Or.inl rfl) (by omega) (by omega) (by omega) (by omega) (by omega) rfl (nr_of rfl) (nr_of rfl)).trans ?_
  rw [b_X1_forgetFirst_30]
  refine (qG_cpy (s := 21) (t := 21) (e := 0) (ns := 40) (nt := 40) rfl rfl rfl rfl (Or.inl rfl) (by omega) (by omega) (by omega) (by omega) (by omega) rfl (nr_of rfl) (nr_of rfl)).trans ?_
  rw [b_X1_forgetFirst_45]
  refine (qG_cpy (s := 22) (t := 22) (e := 0) (ns := 40) (nt := 40) rfl rfl rfl rfl (Or.inl rfl) (by omega) (by omega) (by omega) (by omega) (by omega) rfl (nr_of rfl) (nr_of rfl)).trans ?_
  rw [b_X1_forgetFirst_60, b_X1_forgetFirst_66]
  rfl
def ntC (u : Nat → Nat → Int) (D : Nat) (a b x y : Int) : Nat → Nat → Int := pm_up (pm_up (pm_up (pm_up (pm_up (pm_up u 19 D a) 20 D b) 21 D x) 22 D y) 18 4 ((D : Int) + 1)) 18 5 ((D : Int) + 1)
theorem cr_note_end {D : Nat} (hD : u 18 4 = (D : Int)) (h40 : D < 40) (a b x y : Int) : qG L xs d CX1_note 13 [(2, 18), (0, a), (0, b), (0, x), (0, y)] [] (qS u) = some (none, qS (ntC u D a b x y)) := by
  rw [b_X1_note_13, hD, if_pos (by omega), Int.toNat_natCast, b_X1_note_23, up_ne (by omega), hD, if_pos (by omega), Int.toNat_natCast, b_X1_note_33, up_ne (by omega), up_ne (by omega), hD, if_pos (by omega), Int.toNat_natCast, b_X1_note_43, up_ne (by omega), up_ne (by omega), up_ne (by omega), hD, if_pos (by omega), Int.toNat_natCast, b_X1_note_54, up_ne (by omega), up_ne (by omega), up_ne (by omega), up_ne (by omega), hD, w32_id (by omega) (by omega), b_X1_note_64, up_eq, b_X1_note_72]
  rfl
/-- what note() begins with -/
def ntB (u : Nat → Nat → Int) : Nat → Nat → Int := if u 18 4 < 40 then u else fgC u
theorem ntB_4 (h : 0 ≤ u 18 4 ∧ u 18 4 ≤ 40) : ∃ D : Nat, D < 40 ∧ ntB u 18 4 = (D : Int) ∧ ((u 18 4 = (D : Int) ∧ ntB u = u) ∨ (D = 39 ∧ u 18 4 = 40 ∧ ntB u = fgC u)) := by
  unfold ntB
  by_cases g : u 18 4 < 40
  · rw [if_pos g]
    exact ⟨(u 18 4).toNat, by omega, by omega, Or.inl ⟨by omega, rfl⟩⟩
  · rw [if_neg g]
    exact ⟨39, by omega, fgC_4, Or.inr ⟨rfl, by omega, rfl⟩⟩
theorem cr_note (h : 0 ≤ u 18 4 ∧ u 18 4 ≤ 40) (a b x y : Int) : qE L xs (d + 2) nX1_note [(2, 18), (0, a), (0, b), (0, x), (0, y)] (qS u) = some (none, qS (ntC (ntB u) (ntB u 18 4).toNat a b x y)) := by
  obtain ⟨D, h1, h2, h3⟩ := ntB_4 h
  rw [h2, Int.toNat_natCast]
  rcases h3 with ⟨q1, q2⟩ | ⟨q1, q2, q3⟩
  · rw [q2, e_X1_note, b_X1_note_0, if_pos (by omega), cr_note_end q1 h1]
  · rw [q3, e_X1_note, b_X1_note_0, if_neg (by omega), b_X1_note_9, cr_forget, qB_some, psh_none, cr_note_end (by rw [fgC_4]; omega) h1]
/-- what change() makes -/
def chC (u : Nat → Nat → Int) (k n : Nat) (z : Int) : Nat → Nat → Int := if u (3 + k) n = z then u else pm_up (ntC (ntB u) (ntB u 18 4).toNat k n (u (3 + k) n) z) (3 + k) n z
theorem chC_ne (z : Int) {c j : Nat} (h1 : ¬ (c = 3 + k ∧ j = n)) (h2 : ¬ (c = 18 ∧ (j = 4 ∨ j = 5))) (h3 : ¬ (19 ≤ c ∧ c ≤ 22)) : chC u k n z c j = u c j := by
  unfold chC
  by_cases g : u (3 + k) n = z
  · rw [if_pos g]
  · rw [if_neg g, up_ne (by omega)]
    unfold ntC
    rw [up_ne (by omega), up_ne (by omega), up_ne (by omega), up_ne (by omega), up_ne (by omega), up_ne (by omega)]
    unfold ntB
    by_cases q : u 18 4 < 40
    · rw [if_pos q]
    · rw [if_neg q, fgC_ne (by omega) (by omega)]
theorem ntC_ne {c j D : Nat} {a b x y : Int} (h2 : ¬ (c = 18 ∧ (j = 4 ∨ j = 5))) (h3 : ¬ (19 ≤ c ∧ c ≤ 22)) : ntC (ntB u) D a b x y c j = u c j := by
  unfold ntC
  rw [up_ne (by omega), up_ne (by omega), up_ne (by omega), up_ne (by omega), up_ne (by omega), up_ne (by omega)]
  unfold ntB
  by_cases q : u 18 4 < 40
  · rw [if_pos q]
  · rw [if_neg q, fgC_ne (by omega) (by omega)]
theorem cr_change (hk : k < 12) (hn : n < 30) (hl : (n : Int) < hmN u k) (h : 0 ≤ u 18 4 ∧ u 18 4 ≤ 40) (z : Int) : qE L xs (d + 5) nX11_change [(2, 0), (0, (k : Int)), (0, (n : Int)), (0, z)] (qS u) = some (none, qS (chC u k n z)) := by
  have hl2 : (n : Int) < hm u (k : Int) := by rw [hm_N hk]; exact hl
  rw [e_X11_change, b_X11_change_0, c_value_in (k : Int) (n : Int) (by omega) (by omega) (by omega) hl2 (by omega), qB_some, psh_some, b_X11_change_9, Int.toNat_natCast, Int.toNat_natCast]
  unfold chC
  by_cases g : u (3 + k) n = z
  · rw [if_pos g, if_pos g, b_X11_change_39]
  · rw [if_neg g, if_neg g, b_X11_change_17, cr_note h, qB_some, psh_none, b_X11_change_29, c_set_in (k : Int) (n : Int) z (by omega) (by omega) (by omega) ?_ (by omega), qB_some, psh_none, b_X11_change_39, Int.toNat_natCast, Int.toNat_natCast]
    rw [hm_N hk]
    unfold hmN at hl ⊢
    rw [ntC_ne (by omega) (by omega), ntC_ne (by omega) (by omega)]
    exact hl
end OG3
end
section
/-! becomes(), and both side by side -/
section OH3
variable {L : Nat} {xs : Nat → Int} {d : Nat} {u v w : Nat → Nat → Int} {k n : Nat}
/-- a step of the loop that forgets the first -/
def fgS (v : Nat → Nat → Int) (i : Nat) : Nat → Nat → Int := pm_up (pm_up (pm_up v 65 i (v 65 (i + 1))) 66 i (v 66 (i + 1))) 67 i (v 67 (i + 1))
/-- i and what is behind it are moved one nearer, so long as i is below 40 -/
def fgR (v : Nat → Nat → Int) (i : Nat) : Nat → Nat → Int := fun c j => if (65 ≤ c ∧ c ≤ 67) ∧ i ≤ j ∧ j < 39 then v c (j + 1) else v c j
theorem fgR_step {i : Nat} (h : i < 39) : fgR (fgS v i) (i + 1) = fgR v i := by
  funext c j
  unfold fgR
  by_cases g : (65 ≤ c ∧ c ≤ 67) ∧ i + 1 ≤ j ∧ j < 39
  · rw [if_pos g, if_pos (by omega)]
    unfold fgS
    rw [up_ne (by omega), up_ne (by omega), up_ne (by omega)]
  · rw [if_neg g]
    by_cases g2 : (65 ≤ c ∧ c ≤ 67) ∧ i ≤ j ∧ j < 39
    · rw [if_pos g2]
      have : j = i := by omega
      subst this
      have : c = 65 ∨ c = 66 ∨ c = 67 := by omega
      unfold fgS
      rcases this with rfl | rfl | rfl
      · rw [up_ne (by omega), up_ne (by omega), up_eq]
      · rw [up_ne (by omega), up_eq]
      · rw [up_eq]
    · rw [if_neg g2]
      unfold fgS
      rw [up_ne (by omega), up_ne (by omega), up_ne (by omega)]
theorem lpr_forget (x1 x2 x3 : Int) : ∀ (m i : Nat) (v : Nat → Nat → Int), i + m = 39 → qG L xs d CX12_becomes 26 [(2, 63), (0, x1), (0, x2), (0, x3), (0, (i : Int) + 1)] [] (qS v) = qG L xs d CX12_becomes 87 [(2, 63), (0, x1), (0, x2), (0, x3), (0, 40)] [] (qS (fgR v i))
  | 0, i, v, h => by
    obtain rfl : i = 39 := by omega
    have : fgR v 39 = v := by
      funext c j
      exact if_neg (by omega)
    rw [this, b_X12_becomes_26, if_neg (by omega)]
    rfl
  | m + 1, i, v, h => by
    have ih := lpr_forget x1 x2 x3 m (i + 1) (fgS v i) (by omega)
    rw [fgR_step (by omega)] at ih
    rw [← ih, b_X12_becomes_26, if_pos (by omega), b_X12_becomes_33, if_pos (by omega), w32_id (by omega) (by omega), show ((i : Int) + 1 - 1) = (i : Int) by omega, show ((i : Int) + 1).toNat = i + 1 by omega, b_X12_becomes_48, if_pos (by omega), Int.toNat_natCast, b_X12_becomes_49, if_pos (by omega), w32_id (by omega) (by omega), show ((i : Int) + 1 - 1) = (i : Int) by omega, show ((i : Int) + 1).toNat = i + 1 by omega, b_X12_becomes_64, if_pos (by omega), Int.toNat_natCast, b_X12_becomes_65, if_pos (by omega), w32_id (by omega) (by omega), show ((i : Int) + 1 - 1) = (i : Int) by omega, show ((i : Int) + 1).toNat = i + 1 by omega, b_X12_becomes_80, if_pos (by omega), Int.toNat_natCast, b_X12_becomes_81, w32_id (by omega) (by omega), up_ne (by omega), up_ne (by omega), up_ne (by omega)]
    rfl
def fgM (v : Nat → Nat → Int) : Nat → Nat → Int := pm_up (fgR v 0) 63 5 39
theorem fgM_in {c i : Nat} (hc : 65 ≤ c ∧ c ≤ 67) (hi : i < 39) : fgM v c i = v c (i + 1) := by
  unfold fgM
  rw [up_ne (by omega)]
  exact if_pos (by omega)
theorem fgM_ne {c i : Nat} (hc : ¬ (65 ≤ c ∧ c ≤ 67)) (h : ¬ (c = 63 ∧ i = 5)) : fgM v c i = v c i := by
  unfold fgM
  rw [up_ne (by omega)]
  exact if_neg (by omega)
theorem fgM_5 : fgM v 63 5 = 39 := up_eq _ _ _ _
def ntM (v : Nat → Nat → Int) (D : Nat) (a x y : Int) : Nat → Nat → Int := pm_up (pm_up (pm_up (pm_up (pm_up v 65 D a) 66 D x) 67 D y) 63 5 ((D : Int) + 1)) 63 4 ((D : Int) + 1)
def ntA (v : Nat → Nat → Int) : Nat → Nat → Int := if v 63 5 < 40 then v else fgM v
theorem ntA_5 (h : 0 ≤ v 63 5 ∧ v 63 5 ≤ 40) : ∃ D : Nat, D < 40 ∧ ntA v 63 5 = (D : Int) ∧ ((v 63 5 = (D : Int) ∧ ntA v = v) ∨ (D = 39 ∧ v 63 5 = 40 ∧ ntA v = fgM v)) := by
  unfold ntA
  by_cases g : v 63 5 < 40
  · rw [if_pos g]
    exact ⟨(v 63 5).toNat, by omega, by omega, Or.inl ⟨by omega, rfl⟩⟩
  · rw [if_neg g]
    exact ⟨39, by omega, fgM_5, Or.inr ⟨rfl, by omega, rfl⟩⟩
theorem ntM_ne {c j D : Nat} {a x y : Int} (h2 : ¬ (c = 63 ∧ (j = 4 ∨ j = 5))) (h3 : ¬ (65 ≤ c ∧ c ≤ 67)) : ntM (ntA v) D a x y c j = v c j := by
  unfold ntM
  rw [up_ne (by omega), up_ne (by omega), up_ne (by omega), up_ne (by omega), up_ne (by omega)]
  unfold ntA
  by_cases q : v 63 5 < 40
  · rw [if_pos q]
  · rw [if_neg q, fgM_ne (by omega) (by omega)]
def chM (v : Nat → Nat → Int) (a : Nat) (z : Int) : Nat → Nat → Int := if v 64 a = z then v else pm_up (ntM (ntA v) (ntA v 63 5).toNat a (v 64 a) z) 64 a z
theorem chM_ne {a : Nat} (z : Int) {c j : Nat} (h1 : ¬ (c = 64 ∧ j = a)) (h2 : ¬ (c = 63 ∧ (j = 4 ∨ j = 5))) (h3 : ¬ (65 ≤ c ∧ c ≤ 67)) : chM v a z c j = v c j := by
  unfold chM
  by_cases g : v 64 a = z
  · rw [if_pos g]
  · rw [if_neg g, up_ne (by omega), ntM_ne (by omega) (by omega)]
theorem mr_bec_end {D a : Nat} (hD : v 63 5 = (D : Int)) (h40 : D < 40) (ha : a < 144) (x3 x4 : pm_V) (z old : Int) (h3 : x3 = (0, old)) : qG L xs d CX12_becomes 97 [(2, 63), (0, (a : Int)), (0, z), x3, x4] [] (qS v) = some (some (0, old), qS (pm_up (ntM v D a old z) 64 a z)) := by
  subst h3
  rw [b_X12_becomes_97, hD, if_pos (by omega), Int.toNat_natCast, b_X12_becomes_107, up_ne (by omega), hD, if_pos (by omega), Int.toNat_natCast, b_X12_becomes_117, up_ne (by omega), up_ne (by omega), hD, if_pos (by omega), Int.toNat_natCast, b_X12_becomes_127, up_ne (by omega), up_ne (by omega), up_ne (by omega), hD, w32_id (by omega) (by omega), b_X12_becomes_137, up_eq, b_X12_becomes_145, if_pos (by omega), Int.toNat_natCast, b_X12_becomes_152]
  rfl
theorem mr_becomes {a : Nat} (h : 0 ≤ v 63 5 ∧ v 63 5 ≤ 40) (ha : a < 144) (z : Int) : qE L xs (d + 1) nX12_becomes [(2, 63), (0, (a : Int)), (0, z)] (qS v) = some (some (0, v 64 a), qS (chM v a z)) := by
  rw [e_X12_becomes, b_X12_becomes_0, if_pos (by omega), Int.toNat_natCast, b_X12_becomes_6]
  unfold chM
  by_cases g : v 64 a = z
  · rw [if_pos g, if_pos g, b_X12_becomes_12]
  · rw [if_neg g, if_neg g, b_X12_becomes_14]
    obtain ⟨D, h1, h2, h3⟩ := ntA_5 h
    rw [h2, Int.toNat_natCast]
    rcases h3 with ⟨q1, q2⟩ | ⟨q1, q2, q3⟩
    · rw [q2, if_neg (by omega), mr_bec_end q1 h1 ha _ _ z _ rfl]
    · have lf := lpr_forget (L := L) (xs := xs) (d := d) (a : Int) z (v 64 a) 39 0 v (by omega)
      rw [q3, if_pos q2, b_X12_becomes_23]
      refine Eq.trans lf ?_
      have h5 : fgR v 0 63 5 = 40 := (if_neg (by omega)).trans q2
      rw [b_X12_becomes_87, h5, w32_id (by omega) (by omega), show pm_up (fgR v 0) 63 5 (40 - 1) = fgM v from rfl, mr_bec_end (D := D) (by rw [fgM_5]; omega) h1 ha _ _ z _ rfl]
/-- one more change is written down, on both sides, after s are forgotten -/
theorem rC_note {s D : Nat} {old z : Int} (h : rlC v) (hs : (s = 0 ∧ v 18 4 = (D : Int)) ∨ (s = 1 ∧ v 18 4 = (D : Int) + 1)) (hD : D < 40) (h11 : w 1 1 = v 1 1) (h12 : w 1 2 = v 1 2) (hk : k < 12) (hn : n < cn k) (hl : (n : Int) < hmN v k) (ho : lo k ≤ old ∧ old ≤ hi k) (hz : lo k ≤ z ∧ z ≤ hi k) (e4 : w 18 4 = (D : Int) + 1) (e5 : w 18 5 = (D : Int) + 1) (f5 : w 63 5 = (D : Int) + 1) (f4 : w 63 4 = (D : Int) + 1) (hi : ∀ c i, ((19 ≤ c ∧ c ≤ 22) ∨ (65 ≤ c ∧ c ≤ 67)) → i < D → w c i = v c (i + s)) (d1 : w 19 D = (k : Int)) (d2 : w 20 D = (n : Int)) (d3 : w 21 D = old) (d4 : w 22 D = z) (d5 : w 65 D = (atM k n : Int)) (d6 : w 66 D = old) (d7 : w 67 D = z) : rlC w := by
  have hh : hmN w = hmN v := by
    funext k
    unfold hmN
    rw [h11, h12]
  obtain ⟨p1, p2, p3⟩ := h
  refine ⟨by omega, ⟨by omega, by omega⟩, fun i hi' => ?_⟩
  rw [hh]
  by_cases g : i = D
  · subst g
    exact ⟨k, n, hk, hn, hl, d1, d2, d5, by rw [d6, d3], by rw [d7, d4], by rw [d3]; exact ho, by rw [d4]; exact hz⟩
  · rw [hi 19 i (by omega) (by omega), hi 20 i (by omega) (by omega), hi 21 i (by omega) (by omega), hi 22 i (by omega) (by omega), hi 65 i (by omega) (by omega), hi 66 i (by omega) (by omega), hi 67 i (by omega) (by omega)]
    exact p3 (i + s) (by omega)
/-- BOTH change alike -/
theorem rR_ch (h : rlR (mix u v)) (hk : k < 12) (hn : n < cn k) (hl : (n : Int) < hmN u k) (z : Int) (hz : lo k ≤ z ∧ z ≤ hi k) : rlR (mix (chC u k n z) (chM v (atM k n) z)) := by
  have hW := h.1
  have hC := h.2.1
  have h30 := cn_30 hk hn
  have hM := atM_lt hk hn
  have hmm : hmN (mix u v) = hmN u := by
    funext k
    unfold hmN
    rw [mx_u (by omega), mx_u (by omega)]
  have ev : v 64 (atM k n) = u (3 + k) n := by
    have := hW.2.2.2.2.1 k n hk hn (by rw [hmm]; exact hl)
    rw [mx_v (by omega), mx_u (by omega)] at this
    exact this
  have ob : lo k ≤ u (3 + k) n ∧ u (3 + k) n ≤ hi k := by
    have := hW.2.2.1 k n hk hn
    rw [mx_u (by omega)] at this
    exact this
  by_cases g : u (3 + k) n = z
  · unfold chC chM
    rw [if_pos g, if_pos (ev.trans g)]
    exact h
  · obtain ⟨c1, c2, c3⟩ := hC
    have c45 : 0 ≤ u 18 4 ∧ u 18 4 ≤ 40 := by
      rw [mx_u (by omega), mx_u (by omega)] at c1
      omega
    have m45 : v 63 5 = u 18 4 := by
      have := c2.1
      rw [mx_v (by omega), mx_u (by omega)] at this
      exact this
    obtain ⟨D, h1, h2, h3⟩ := ntB_4 c45
    obtain ⟨D', h1', h2', h3'⟩ := ntA_5 (v := v) (by omega)
    have eD : D' = D := by omega
    subst eD
    have eC : chC u k n z = pm_up (ntC (ntB u) D' k n (u (3 + k) n) z) (3 + k) n z := by
      unfold chC
      rw [if_neg g, h2, Int.toNat_natCast]
    have eM : chM v (atM k n) z = pm_up (ntM (ntA v) D' (atM k n) (u (3 + k) n) z) 64 (atM k n) z := by
      unfold chM
      rw [ev, if_neg g, h2', Int.toNat_natCast]
    have hu : ∀ c j, ¬ (c = 3 + k ∧ j = n) → ¬ (c = 18 ∧ (j = 4 ∨ j = 5)) → ¬ (19 ≤ c ∧ c ≤ 22) → ¬ (c = 64 ∧ j = atM k n) → ¬ (c = 63 ∧ (j = 4 ∨ j = 5)) → ¬ (65 ≤ c ∧ c ≤ 67) → mix (chC u k n z) (chM v (atM k n) z) c j = mix u v c j := fun c j q1 q2 q3 q4 q5 q6 => by
      unfold mix
      rw [chC_ne z q1 q2 q3, chM_ne z q4 q5 q6]
    refine rlR_but h (rW_set (k := k) (n := n) (z := z) hW hk hn (by rw [hmm]; exact hl) hz ?_ ?_ (fun c j q z1 z2 => hu c j z1 (by unfold dsW at q; omega) (by unfold dsW at q; omega) z2 (by unfold dsW at q; omega) (by unfold dsW at q; omega))) ?_ (fun c j q => hu c j (by unfold dsO dsT dsL dsD dsG dsB dsS dsN at q; omega) (by unfold dsO dsT dsL dsD dsG dsB dsS dsN at q; omega) (by unfold dsO dsT dsL dsD dsG dsB dsS dsN at q; omega) (by unfold dsO dsT dsL dsD dsG dsB dsS dsN at q; omega) (by unfold dsO dsT dsL dsD dsG dsB dsS dsN at q; omega) (by unfold dsO dsT dsL dsD dsG dsB dsS dsN at q; omega))
    · rw [mx_u (by omega), eC, up_eq]
    · rw [mx_v (by omega), eM, up_eq]
    · obtain ⟨s, hs, iC, iM⟩ : ∃ s : Nat, ((s = 0 ∧ u 18 4 = (D' : Int)) ∨ (s = 1 ∧ u 18 4 = (D' : Int) + 1)) ∧ (∀ c i, (19 ≤ c ∧ c ≤ 22) → i < D' → ntB u c i = u c (i + s)) ∧ ∀ c i, (65 ≤ c ∧ c ≤ 67) → i < D' → ntA v c i = v c (i + s) := by
        rcases h3 with ⟨q1, q2⟩ | ⟨q1, q2, q3⟩
        · refine ⟨0, Or.inl ⟨rfl, q1⟩, fun c i _ _ => by rw [q2]; rfl, fun c i _ _ => ?_⟩
          rcases h3' with ⟨r1, r2⟩ | ⟨r1, r2, r3⟩
          · rw [r2]; rfl
          · omega
        · refine ⟨1, Or.inr ⟨rfl, by omega⟩, fun c i hc hi => by rw [q3, fgC_in hc (by omega)], fun c i hc hi => ?_⟩
          rcases h3' with ⟨r1, r2⟩ | ⟨r1, r2, r3⟩
          · omega
          · rw [r3, fgM_in hc (by omega)]
      have eL : ∀ c j, c < 63 → mix (chC u k n z) (chM v (atM k n) z) c j = chC u k n z c j := fun c j q => mx_u q
      have eR : ∀ c j, 63 ≤ c → mix (chC u k n z) (chM v (atM k n) z) c j = chM v (atM k n) z c j := fun c j q => mx_v q
      refine rC_note (v := mix u v) (s := s) (D := D') (k := k) (n := n) (old := u (3 + k) n) (z := z) h.2.1 (by rw [mx_u (by omega)]; exact hs) h1 (hu 1 1 (by omega) (by omega) (by omega) (by omega) (by omega) (by omega)) (hu 1 2 (by omega) (by omega) (by omega) (by omega) (by omega) (by omega)) hk hn (by rw [hmm]; exact hl) ob hz ?_ ?_ ?_ ?_ (fun c i hc hi => ?_) ?_ ?_ ?_ ?_ ?_ ?_ ?_
      · rw [eL _ _ (by omega), eC, up_ne (by omega)]; unfold ntC; rw [up_ne (by omega), up_eq]
      · rw [eL _ _ (by omega), eC, up_ne (by omega)]; unfold ntC; rw [up_eq]
      · rw [eR _ _ (by omega), eM, up_ne (by omega)]; unfold ntM; rw [up_ne (by omega), up_eq]
      · rw [eR _ _ (by omega), eM, up_ne (by omega)]; unfold ntM; rw [up_eq]
      · rcases hc with hc | hc
        · rw [eL _ _ (by omega), eC, up_ne (by omega), mx_u (by omega), ← iC c i hc hi]
          unfold ntC
          rw [up_ne (by omega), up_ne (by omega), up_ne (by omega), up_ne (by omega), up_ne (by omega), up_ne (by omega)]
        · rw [eR _ _ (by omega), eM, up_ne (by omega), mx_v (by omega), ← iM c i hc hi]
          unfold ntM
          rw [up_ne (by omega), up_ne (by omega), up_ne (by omega), up_ne (by omega), up_ne (by omega)]
      · rw [eL _ _ (by omega), eC, up_ne (by omega)]; unfold ntC; rw [up_ne (by omega), up_ne (by omega), up_ne (by omega), up_ne (by omega), up_ne (by omega), up_eq]
      · rw [eL _ _ (by omega), eC, up_ne (by omega)]; unfold ntC; rw [up_ne (by omega), up_ne (by omega), up_ne (by omega), up_ne (by omega), up_eq]
      · rw [eL _ _ (by omega), eC, up_ne (by omega)]; unfold ntC; rw [up_ne (by omega), up_ne (by omega), up_ne (by omega), up_eq]
      · rw [eL _ _ (by omega), eC, up_ne (by omega)]; unfold ntC; rw [up_ne (by omega), up_ne (by omega), up_eq]
      · rw [eR _ _ (by omega), eM, up_ne (by omega)]; unfold ntM; rw [up_ne (by omega), up_ne (by omega), up_ne (by omega), up_ne (by omega), up_eq]
      · rw [eR _ _ (by omega), eM, up_ne (by omega)]; unfold ntM; rw [up_ne (by omega), up_ne (by omega), up_ne (by omega), up_eq]
      · rw [eR _ _ (by omega), eM, up_ne (by omega)]; unfold ntM; rw [up_ne (by omega), up_ne (by omega), up_eq]
end OH3
end
section
/-! mend, undo, redo keep the relation -/
section OI3
variable {L : Nat} {xs : Nat → Int} {d : Nat} {u v w : Nat → Nat → Int} {k n : Nat}
theorem cr_allows_out {a z : Int} (h : ¬ (0 ≤ a ∧ a < 12)) : qE L xs (d + 1) nX9_allows [(0, a), (0, z)] (qS v) = some (some (0, 0), qS v) := by
  rw [e_X9_allows, b_X9_allows_0]
  by_cases g : a < 0
  · rw [if_pos g, b_X9_allows_34, b_X9_allows_35, if_pos (by omega)]
  · rw [if_neg g, b_X9_allows_4, if_neg (by omega), b_X9_allows_34, b_X9_allows_35, if_pos (by omega)]
/-- both change alike, one after the other -/
theorem ch_both (h : rlR v) (hk : k < 12) (hn : n < cn k) (hl : (n : Int) < hmN v k) (z : Int) (hz : lo k ≤ z ∧ z ≤ hi k) : rlR (chM (chC v k n z) (atM k n) z) := by
  have hM := atM_lt hk hn
  have h30 := cn_30 hk hn
  have o : ∀ c j, 63 ≤ c → chC v k n z c j = v c j := fun c j q => chC_ne z (by omega) (by omega) (by omega)
  have a := rR_ch (u := v) (v := chC v k n z) (k := k) (n := n) (by rw [mx_out o]; exact h) hk hn hl z hz
  rw [mx_in (fun c j q => chM_ne z (by omega) (by omega) (by omega))] at a
  exact a
theorem opr_mend (h : rlR v) (n a z : Int) : opR L xs v nX11_mend nX12_mend 0 [(0, n), (0, a), (0, z)] := by
  obtain ⟨p1, p2, p3, p4, p5, p6, p7, p8⟩ := h.1
  obtain ⟨c1, c2, c3⟩ := h.2.1
  by_cases g : (0 ≤ a ∧ a < 12) ∧ 0 ≤ n ∧ n < hm v a
  · obtain ⟨k, rfl⟩ : ∃ k : Nat, a = (k : Int) := ⟨a.toNat, by omega⟩
    obtain ⟨m, rfl⟩ : ∃ m : Nat, n = (m : Int) := ⟨n.toNat, by omega⟩
    have hk : k < 12 := by omega
    have hl : (m : Int) < hmN v k := by rw [← hm_N hk]; exact g.2.2
    have hn := hm_cn p1.2 p2.2 hk hl
    have h30 := cn_30 hk hn
    have hM := atM_lt hk hn
    by_cases g2 : lo k ≤ z ∧ z ≤ hi k
    · have o : ∀ c j, 63 ≤ c → chC v k m z c j = v c j := fun c j q => chC_ne z (by omega) (by omega) (by omega)
      refine ⟨v (3 + k) m, chC v k m z, chM (chC v k m z) (atM k m) z, ?_, ?_, ch_both h hk hn hl z g2⟩
      · rw [e_X11_mend, b_X11_mend_0, c_has, qB_some, psh_some, b_X11_mend_9, zb_0, if_pos g.2, b_X11_mend_12, cr_allows hk, qB_some, psh_some, b_X11_mend_17, zb_0, if_pos g2, b_X11_mend_23, c_value_in k m (by omega) (by omega) (by omega) g.2.2 (by omega), qB_some, psh_some, b_X11_mend_32, cr_change hk h30 hl (by omega), qB_some, psh_none, b_X11_mend_41, Int.toNat_natCast, Int.toNat_natCast]
      · have e1 : chC v k m z 1 1 = v 1 1 := chC_ne z (by omega) (by omega) (by omega)
        have e2 : chC v k m z 1 2 = v 1 2 := chC_ne z (by omega) (by omega) (by omega)
        have hl' : (m : Int) < hmN (chC v k m z) k := by
          unfold hmN at hl ⊢
          rw [e1, e2]
          exact hl
        rw [e_X12_mend, b_X12_mend_0, m_placeOf_in (by rw [o _ _ (by omega), e1]; exact p4.1) (by rw [o _ _ (by omega), e2]; exact p4.2) (by rw [e1]; exact p1.2) (by rw [e2]; exact p2.2) hk hl', qB_some, psh_some, b_X12_mend_6, if_neg (by omega), b_X12_mend_13, mr_may hk, qB_some, psh_some, b_X12_mend_19, zb_0, if_pos g2, b_X12_mend_22, mr_becomes (by rw [o _ _ (by omega)]; omega) hM, qB_some, psh_some, b_X12_mend_29, b_X12_mend_34, o _ _ (by omega), p5 k m hk hn hl]
    · refine opR_no (r := -2000000000) h ?_ ?_
      · rw [e_X11_mend, b_X11_mend_0, c_has, qB_some, psh_some, b_X11_mend_9, zb_0, if_pos g.2, b_X11_mend_12, cr_allows hk, qB_some, psh_some, b_X11_mend_17, zb_0, if_neg g2, b_X11_mend_20]
      · rw [e_X12_mend, b_X12_mend_0, m_placeOf_in p4.1 p4.2 p1.2 p2.2 hk hl, qB_some, psh_some, b_X12_mend_6, if_neg (by omega), b_X12_mend_13, mr_may hk, qB_some, psh_some, b_X12_mend_19, zb_0, if_neg g2, b_X12_mend_32, b_X12_mend_34]
  · refine opR_no (r := -2000000000) h ?_ ?_
    · rw [e_X11_mend, b_X11_mend_0, c_has, qB_some, psh_some, b_X11_mend_9, zb_0]
      by_cases g1 : 0 ≤ n ∧ n < hm v a
      · rw [if_pos g1, b_X11_mend_12, cr_allows_out (by omega), qB_some, psh_some, b_X11_mend_17, if_pos rfl, b_X11_mend_20]
      · rw [if_neg g1, b_X11_mend_20]
    · rw [e_X12_mend, b_X12_mend_0, m_placeOf_out p4.1 p4.2 p1 p2 n a g, qB_some, psh_some, b_X12_mend_6, if_pos (by omega), b_X12_mend_32, b_X12_mend_34]
/-- a number goes back, or forth again -/
theorem rR_go {D S : Nat} {z : Int} (h : rlR v) (h4 : w 18 4 = (D : Int)) (h5 : w 63 5 = (D : Int)) (hS : (D : Int) ≤ v 18 5) (hk : k < 12) (hn : n < cn k) (hl : (n : Int) < hmN v k) (hz : lo k ≤ z ∧ z ≤ hi k) (e1 : w (3 + k) n = z) (e2 : w 64 (atM k n) = z) (hc : ∀ c j, ¬ (c = 18 ∧ j = 4) → ¬ (c = 63 ∧ j = 5) → ¬ (c = 3 + k ∧ j = n) → ¬ (c = 64 ∧ j = atM k n) → w c j = v c j) : rlR w := by
  have hh : hmN w = hmN v := by
    funext k
    unfold hmN
    rw [hc 1 1 (by omega) (by omega) (by omega) (by omega), hc 1 2 (by omega) (by omega) (by omega) (by omega)]
  obtain ⟨c1, c2, c3⟩ := h.2.1
  refine rlR_but h (rW_set (k := k) (n := n) (z := z) h.1 hk hn hl hz e1 e2 (fun c j q z1 z2 => hc c j (by unfold dsW at q; omega) (by unfold dsW at q; omega) z1 z2)) ⟨?_, ?_, fun i hi => ?_⟩ (fun c j q => hc c j (by unfold dsO dsT dsL dsD dsG dsB dsS dsN at q; omega) (by unfold dsO dsT dsL dsD dsG dsB dsS dsN at q; omega) (by unfold dsO dsT dsL dsD dsG dsB dsS dsN at q; omega) (by unfold dsO dsT dsL dsD dsG dsB dsS dsN at q; omega))
  · rw [h4, hc 18 5 (by omega) (by omega) (by omega) (by omega)]
    omega
  · rw [h4, h5, hc 18 5 (by omega) (by omega) (by omega) (by omega), hc 63 4 (by omega) (by omega) (by omega) (by omega)]
    omega
  · rw [hc 18 5 (by omega) (by omega) (by omega) (by omega)] at hi
    rw [hh, hc 19 i (by omega) (by omega) (by omega) (by omega), hc 20 i (by omega) (by omega) (by omega) (by omega), hc 21 i (by omega) (by omega) (by omega) (by omega), hc 22 i (by omega) (by omega) (by omega) (by omega), hc 65 i (by omega) (by omega) (by omega) (by omega), hc 66 i (by omega) (by omega) (by omega) (by omega), hc 67 i (by omega) (by omega) (by omega) (by omega)]
    exact c3 i hi
theorem opr_undo (h : rlR v) : opR L xs v nX11_undo nX12_undo 0 [] := by
  obtain ⟨c1, c2, c3⟩ := h.2.1
  have p := h.1
  by_cases g : v 18 4 = 0
  · refine opR_no (r := -5) h ?_ ?_
    · rw [e_X11_undo, b_X11_undo_0, e_X1_takeBack, b_X1_takeBack_0, if_neg (by omega), b_X1_takeBack_7, qB_some, psh_some, b_X11_undo_11, if_pos rfl, b_X11_undo_24, b_X11_undo_26]
    · rw [e_X12_undo, b_X12_undo_0, if_pos (by omega), b_X12_undo_7]
  · obtain ⟨D, hD⟩ : ∃ D : Nat, v 18 4 = (D : Int) + 1 := ⟨(v 18 4 - 1).toNat, by omega⟩
    obtain ⟨k, n, hk, hn, hl, q1, q2, q3, q4, q5, q6, q7⟩ := c3 D (by omega)
    have h30 := cn_30 hk hn
    have hM := atM_lt hk hn
    have hmx : (n : Int) < hm v k := by rw [hm_N hk]; exact hl
    obtain ⟨w1, hw1⟩ : ∃ w1, w1 = pm_up (pm_up v 18 4 D) (3 + k) n (v 21 D) := ⟨_, rfl⟩
    obtain ⟨w2, hw2⟩ : ∃ w2, w2 = pm_up (pm_up w1 63 5 D) 64 (atM k n) (v 21 D) := ⟨_, rfl⟩
    have hm1 : (n : Int) < hm (pm_up v 18 4 D) k := by
      rw [hm_N hk]
      unfold hmN at hl ⊢
      rw [up_ne (by omega), up_ne (by omega)]
      exact hl
    refine ⟨D, w1, w2, ?_, ?_, rR_go (D := D) (S := D) (k := k) (n := n) (z := v 21 D) h ?_ ?_ (by omega) hk hn hl q6 ?_ ?_ (fun c j z1 z2 z3 z4 => ?_)⟩
    · rw [e_X11_undo, b_X11_undo_0, e_X1_takeBack, b_X1_takeBack_0, if_pos (by omega), b_X1_takeBack_9, hD, w32_id (by omega) (by omega), show (D : Int) + 1 - 1 = D by omega, b_X1_takeBack_19, up_eq, if_pos (by omega), Int.toNat_natCast, up_ne (by omega), b_X1_takeBack_29, up_eq, if_pos (by omega), Int.toNat_natCast, up_ne (by omega), b_X1_takeBack_38, up_eq, if_pos (by omega), Int.toNat_natCast, up_ne (by omega), q1, q2, b_X1_takeBack_47, c_set_in (k : Int) (n : Int) _ (by omega) (by omega) (by omega) hm1 (by omega), qB_some, psh_none, b_X1_takeBack_50, qB_some, psh_some, b_X11_undo_11, if_neg (by decide), b_X11_undo_14, b_X11_undo_26, Int.toNat_natCast, Int.toNat_natCast, ← hw1, hw1, up_ne (by omega), up_eq]
    · have e5 : w1 63 5 = (D : Int) + 1 := by rw [hw1, up_ne (by omega), up_ne (by omega)]; omega
      have e65 : w1 65 D = (atM k n : Int) := by rw [hw1, up_ne (by omega), up_ne (by omega)]; exact q3
      have e66 : w1 66 D = v 21 D := by rw [hw1, up_ne (by omega), up_ne (by omega)]; exact q4
      rw [e_X12_undo, b_X12_undo_0, if_neg (by omega), b_X12_undo_10, e5, w32_id (by omega) (by omega), show (D : Int) + 1 - 1 = D by omega, b_X12_undo_20, up_eq, if_pos (by omega), Int.toNat_natCast, up_ne (by omega), e65, b_X12_undo_33, up_eq, if_pos (by omega), Int.toNat_natCast, up_ne (by omega), e66, b_X12_undo_42, if_pos (by omega), Int.toNat_natCast, ← hw2, b_X12_undo_43, hw2, up_ne (by omega), up_eq]
    · rw [hw2, up_ne (by omega), up_ne (by omega), hw1, up_ne (by omega), up_eq]
    · rw [hw2, up_ne (by omega), up_eq]
    · rw [hw2, up_ne (by omega), up_ne (by omega), hw1, up_eq]
    · rw [hw2, up_eq]
    · rw [hw2, up_ne (by omega), up_ne (by omega), hw1, up_ne (by omega), up_ne (by omega)]
theorem opr_redo (h : rlR v) : opR L xs v nX11_redo nX12_redo 0 [] := by
  obtain ⟨c1, c2, c3⟩ := h.2.1
  by_cases g : v 18 4 = v 18 5
  · refine opR_no (r := -5) h ?_ ?_
    · rw [e_X11_redo, b_X11_redo_0, e_X1_doAgain, b_X1_doAgain_0, if_neg (by omega), b_X1_doAgain_11, qB_some, psh_some, b_X11_redo_11, if_pos rfl, b_X11_redo_32, b_X11_redo_34]
    · rw [e_X12_redo, b_X12_redo_0, if_pos (by omega), b_X12_redo_11]
  · obtain ⟨D, hD⟩ : ∃ D : Nat, v 18 4 = (D : Int) := ⟨(v 18 4).toNat, by omega⟩
    obtain ⟨k, n, hk, hn, hl, q1, q2, q3, q4, q5, q6, q7⟩ := c3 D (by omega)
    have h30 := cn_30 hk hn
    have hM := atM_lt hk hn
    have hmx : (n : Int) < hm v k := by rw [hm_N hk]; exact hl
    obtain ⟨w1, hw1⟩ : ∃ w1, w1 = pm_up (pm_up v (3 + k) n (v 22 D)) 18 4 ((D : Int) + 1) := ⟨_, rfl⟩
    obtain ⟨w2, hw2⟩ : ∃ w2, w2 = pm_up (pm_up w1 64 (atM k n) (v 22 D)) 63 5 ((D : Int) + 1) := ⟨_, rfl⟩
    refine ⟨v 18 5 - ((D : Int) + 1), w1, w2, ?_, ?_, rR_go (D := D + 1) (S := D) (k := k) (n := n) (z := v 22 D) h ?_ ?_ (by omega) hk hn hl q7 ?_ ?_ (fun c j z1 z2 z3 z4 => ?_)⟩
    · rw [e_X11_redo, b_X11_redo_0, e_X1_doAgain, b_X1_doAgain_0, if_pos (by omega), b_X1_doAgain_13, hD, if_pos (by omega), Int.toNat_natCast, b_X1_doAgain_23, hD, if_pos (by omega), Int.toNat_natCast, b_X1_doAgain_32, hD, if_pos (by omega), Int.toNat_natCast, q1, q2, b_X1_doAgain_41, c_set_in (k : Int) (n : Int) _ (by omega) (by omega) (by omega) hmx (by omega), qB_some, psh_none, b_X1_doAgain_44, Int.toNat_natCast, Int.toNat_natCast, up_ne (by omega), hD, w32_id (by omega) (by omega), ← hw1, b_X1_doAgain_54, qB_some, psh_some, b_X11_redo_11, if_neg (by decide), b_X11_redo_14, b_X11_redo_34, hw1, up_ne (by omega), up_ne (by omega), up_eq, w32_id (by omega) (by omega)]
    · have e5 : w1 63 5 = (D : Int) := by rw [hw1, up_ne (by omega), up_ne (by omega)]; omega
      have e4 : w1 63 4 = v 18 5 := by rw [hw1, up_ne (by omega), up_ne (by omega)]; omega
      have e65 : w1 65 D = (atM k n : Int) := by rw [hw1, up_ne (by omega), up_ne (by omega)]; exact q3
      have e67 : w1 67 D = v 22 D := by rw [hw1, up_ne (by omega), up_ne (by omega)]; exact q5
      rw [e_X12_redo, b_X12_redo_0, if_neg (by omega), b_X12_redo_14, e5, if_pos (by omega), Int.toNat_natCast, e65, b_X12_redo_27, e5, if_pos (by omega), Int.toNat_natCast, e67, b_X12_redo_36, if_pos (by omega), Int.toNat_natCast, b_X12_redo_37, up_ne (by omega), e5, w32_id (by omega) (by omega), ← hw2, b_X12_redo_47, hw2, up_ne (by omega), up_ne (by omega), up_eq, e4, w32_id (by omega) (by omega)]
    · rw [hw2, up_ne (by omega), up_ne (by omega), hw1, up_eq]; omega
    · rw [hw2, up_eq]; omega
    · rw [hw2, up_ne (by omega), up_ne (by omega), hw1, up_ne (by omega), up_eq]
    · rw [hw2, up_ne (by omega), up_eq]
    · rw [hw2, up_ne (by omega), up_ne (by omega), hw1, up_ne (by omega), up_ne (by omega)]
end OI3
end
section
/-! yards keeps the relation -/
section OJ3
variable {L : Nat} {xs : Nat → Int} {d : Nat} {u v w : Nat → Nat → Int} {k n : Nat}
theorem chC_4 (z : Int) (hk : k < 12) (h : 0 ≤ u 18 4 ∧ u 18 4 ≤ 40) : 0 ≤ chC u k n z 18 4 ∧ chC u k n z 18 4 ≤ 40 := by
  unfold chC
  by_cases g : u (3 + k) n = z
  · rw [if_pos g]
    exact h
  · obtain ⟨D, h1, h2, h3⟩ := ntB_4 h
    rw [if_neg g, h2, Int.toNat_natCast, up_ne (by omega)]
    unfold ntC
    rw [up_ne (by omega), up_eq]
    omega
theorem chM_5 {a : Nat} (z : Int) (h : 0 ≤ v 63 5 ∧ v 63 5 ≤ 40) : 0 ≤ chM v a z 63 5 ∧ chM v a z 63 5 ≤ 40 := by
  unfold chM
  by_cases g : v 64 a = z
  · rw [if_pos g]
    exact h
  · obtain ⟨D, h1, h2, h3⟩ := ntA_5 h
    rw [if_neg g, h2, Int.toNat_natCast, up_ne (by omega)]
    unfold ntM
    rw [up_ne (by omega), up_eq]
    omega
/-- what differs from the first is the wall's and the changes' alone -/
def yfC (u v : Nat → Nat → Int) : Prop := (∀ c j, ¬ (3 ≤ c ∧ c ≤ 14) → ¬ (c = 18 ∧ (j = 4 ∨ j = 5)) → ¬ (19 ≤ c ∧ c ≤ 22) → u c j = v c j) ∧ 0 ≤ u 18 4 ∧ u 18 4 ≤ 40
def yfM (u v : Nat → Nat → Int) : Prop := (∀ c j, ¬ (64 ≤ c ∧ c ≤ 67) → ¬ (c = 63 ∧ (j = 4 ∨ j = 5)) → 63 ≤ c → u c j = v c j) ∧ 0 ≤ u 63 5 ∧ u 63 5 ≤ 40
theorem yfC_ch (h : yfC u v) (hk : k < 12) (z : Int) : yfC (chC u k n z) v := ⟨fun c j q1 q2 q3 => by rw [chC_ne z (by omega) q2 q3]; exact h.1 c j q1 q2 q3, chC_4 z hk h.2⟩
theorem yfM_ch {a : Nat} (h : yfM u v) (z : Int) : yfM (chM u a z) v := ⟨fun c j q1 q2 q3 => by rw [chM_ne z (by omega) q2 (by omega)]; exact h.1 c j q1 q2 q3, chM_5 z h.2⟩
theorem yfC_S (h : yfC u v) (hS : rlS v) : rlS u := by
  refine rlS_cg (fun c j q => ?_) hS
  unfold dsS at q
  by_cases g : c ≤ 62
  · exact h.1 c j (by omega) (by omega) (by omega)
  · exact h.1 c j (by omega) (by omega) (by omega)
def chC3 (u : Nat → Nat → Int) (y : Nat) (V : Nat → Int) (j : Nat) : Nat → Nat → Int := chC (chC (chC u 0 y (V j)) 1 y (V (j + 1))) 2 y (V (j + 2))
def chM3 (v : Nat → Nat → Int) (y : Nat) (V : Nat → Int) (j : Nat) : Nat → Nat → Int := chM (chM (chM v (atM 0 y) (V j)) (atM 1 y) (V (j + 1))) (atM 2 y) (V (j + 2))
/-- the three numbers of a yard may stand -/
abbrev okY (V : Nat → Int) (j : Nat) : Prop := (lo 0 ≤ V j ∧ V j ≤ hi 0) ∧ (lo 1 ≤ V (j + 1) ∧ V (j + 1) ≤ hi 1) ∧ lo 2 ≤ V (j + 2) ∧ V (j + 2) ≤ hi 2
theorem rR_ch3 {y j : Nat} {V : Nat → Int} (h : rlR (mix u v)) (hy : y < 30) (ok : okY V j) : rlR (mix (chC3 u y V j) (chM3 v y V j)) := by
  have a := rR_ch (k := 0) (n := y) h (by omega) (by show y < 30; omega) (by show (y : Int) < 30; omega) (V j) ok.1
  have b := rR_ch (k := 1) (n := y) a (by omega) (by show y < 30; omega) (by show (y : Int) < 30; omega) (V (j + 1)) ok.2.1
  exact rR_ch (k := 2) (n := y) b (by omega) (by show y < 30; omega) (by show (y : Int) < 30; omega) (V (j + 2)) ok.2.2
/-- bytes of a row -/
theorem by_id {K i : Nat} (hS : rlS u) (hK : K < 6) (h0 : u 53 K = 0) (hi : i < 60) : w32 (u (57 + K) i) = u (57 + K) i := by
  have a := ((hS K hK).2.2.2 (by omega)).2.2.2 i hi
  have b := a.2.1 h0
  exact w32_id (by omega) (by omega)
theorem ty_chk {K j : Nat} (hS : rlS u) (hK : K < 6) (h0 : u 53 K = 0) (hj : (j : Int) + 3 ≤ szS u K) (y : Int) (q : Nat) (hq : q < 3) : qG L xs (d + 5) CX11_takeYard 36 [(2, 0), (0, (K : Int)), (1, (j : Int)), (9, 0), (0, y), (0, (q : Int))] [] (qS u) = if lo q ≤ u (57 + K) (j + q) ∧ u (57 + K) (j + q) ≤ hi q then qG L xs (d + 5) CX11_takeYard 36 [(2, 0), (0, (K : Int)), (1, (j : Int)), (9, 0), (0, y), (0, (q : Int) + 1)] [] (qS u) else some (some (0, 0), qS u) := by
  have hz := szS_in hS K hK
  conv => lhs; rw [b_X11_takeYard_36, if_neg (by omega), b_X11_takeYard_42, w32_id (z := (j : Int)) (by omega) (by omega), w32_id (by omega) (by omega), show (j : Int) + (q : Int) = ((j + q : Nat) : Int) by omega, cr_get hS K (j + q) hK (by omega), qB_some, psh_some, b_X11_takeYard_57, by_id hS hK h0 (by omega), cr_allows (k := q) (by omega), qB_some, psh_some, b_X11_takeYard_61, zb_0]
  by_cases g : lo q ≤ u (57 + K) (j + q) ∧ u (57 + K) (j + q) ≤ hi q
  · rw [if_pos g, if_pos g]
    conv => lhs; rw [b_X11_takeYard_66, w32_id (by omega) (by omega)]
  · rw [if_neg g, if_neg g, b_X11_takeYard_64]
theorem ty_set {K j y : Nat} (hS : rlS u) (hC : 0 ≤ u 18 4 ∧ u 18 4 ≤ 40) (hK : K < 6) (h0 : u 53 K = 0) (hj : (j : Int) + 3 ≤ szS u K) (hy : y < 30) (q : Nat) (hq : q < 3) : qG L xs (d + 5) CX11_takeYard 75 [(2, 0), (0, (K : Int)), (1, (j : Int)), (9, 0), (0, (y : Int)), (0, (q : Int))] [] (qS u) = qG L xs (d + 5) CX11_takeYard 75 [(2, 0), (0, (K : Int)), (1, (j : Int)), (9, 0), (0, (y : Int)), (0, (q : Int) + 1)] [] (qS (chC u q y (u (57 + K) (j + q)))) := by
  have hz := szS_in hS K hK
  have hN : (y : Int) < hmN u q := by
    unfold hmN
    rw [if_pos hq]
    omega
  conv => lhs; rw [b_X11_takeYard_75, if_neg (by omega), b_X11_takeYard_81, w32_id (z := (j : Int)) (by omega) (by omega), w32_id (by omega) (by omega), show (j : Int) + (q : Int) = ((j + q : Nat) : Int) by omega, cr_get hS K (j + q) hK (by omega), qB_some, psh_some, b_X11_takeYard_99, by_id hS hK h0 (by omega), cr_change (k := q) (n := y) (by omega) hy hN hC, qB_some, psh_none, b_X11_takeYard_103, w32_id (by omega) (by omega)]
theorem cr_takeYard {K y : Nat} {i : Int} (hf : yfC u v) (hSv : rlS v) (hK : K < 6) (h0 : v 53 K = 0) (hb : -9223372036854775808 ≤ i ∧ i < 9000000000000000000) : qE L xs (d + 6) nX11_takeYard [(2, 0), (0, (K : Int)), (1, i), (0, (y : Int))] (qS u) = if (y < 30 ∧ 0 ≤ i ∧ i + 3 ≤ szS v K) ∧ okY (v (57 + K)) i.toNat then some (some (0, 1), qS (chC3 u y (v (57 + K)) i.toNat)) else some (some (0, 0), qS u) := by
  have hS := yfC_S hf hSv
  have e53 : u 53 = v 53 := funext fun c => hf.1 53 c (by omega) (by omega) (by omega)
  have e55 : u 55 = v 55 := funext fun c => hf.1 55 c (by omega) (by omega) (by omega)
  have e57 : u (57 + K) = v (57 + K) := funext fun c => hf.1 (57 + K) c (by omega) (by omega) (by omega)
  have ez : szS u K = szS v K := by
    unfold szS
    rw [e53, e55]
  have hz := szS_in hSv K hK
  rw [e_X11_takeYard, b_X11_takeYard_0]
  by_cases g1 : y < 30
  · rw [if_pos (by omega), b_X11_takeYard_7]
    by_cases g2 : 0 ≤ i
    · rw [if_neg (by omega), b_X11_takeYard_13, cr_sizeOf K hK, qB_some, psh_some, b_X11_takeYard_26, w64_id (by omega) (by omega), ez]
      by_cases g3 : i + 3 ≤ szS v K
      · obtain ⟨j, rfl⟩ : ∃ j : Nat, i = (j : Int) := ⟨i.toNat, by omega⟩
        have hj : (j : Int) + 3 ≤ szS u K := by rw [ez]; exact g3
        have h0' : u 53 K = 0 := by rw [e53]; exact h0
        rw [if_neg (by omega), b_X11_takeYard_33, Int.toNat_natCast]
        have k0 := ty_chk (L := L) (xs := xs) (d := d) hS hK h0' hj (y : Int) 0 (by omega)
        have k1 := ty_chk (L := L) (xs := xs) (d := d) hS hK h0' hj (y : Int) 1 (by omega)
        have k2 := ty_chk (L := L) (xs := xs) (d := d) hS hK h0' hj (y : Int) 2 (by omega)
        rw [e57] at k0 k1 k2
        refine Eq.trans k0 ?_
        by_cases o0 : lo 0 ≤ v (57 + K) j ∧ v (57 + K) j ≤ hi 0
        · rw [if_pos (show lo 0 ≤ v (57 + K) (j + 0) ∧ v (57 + K) (j + 0) ≤ hi 0 from o0)]
          refine Eq.trans k1 ?_
          by_cases o1 : lo 1 ≤ v (57 + K) (j + 1) ∧ v (57 + K) (j + 1) ≤ hi 1
          · rw [if_pos o1]
            refine Eq.trans k2 ?_
            by_cases o2 : lo 2 ≤ v (57 + K) (j + 2) ∧ v (57 + K) (j + 2) ≤ hi 2
            · rw [if_pos o2, if_pos ⟨⟨g1, g2, g3⟩, o0, o1, o2⟩, b_X11_takeYard_36, if_pos (by omega), b_X11_takeYard_72]
              have f1 := yfC_ch (k := 0) (n := y) hf (by omega) (v (57 + K) j)
              have f2 := yfC_ch (k := 1) (n := y) f1 (by omega) (v (57 + K) (j + 1))
              have s0 := ty_set (L := L) (xs := xs) (d := d) hS hf.2 hK h0' hj g1 0 (by omega)
              have s1 := ty_set (L := L) (xs := xs) (d := d) (yfC_S f1 hSv) f1.2 hK (by rw [f1.1 53 K (by omega) (by omega) (by omega)]; exact h0) (by unfold szS; rw [f1.1 53 K (by omega) (by omega) (by omega), f1.1 55 K (by omega) (by omega) (by omega)]; exact g3) g1 1 (by omega)
              have s2 := ty_set (L := L) (xs := xs) (d := d) (yfC_S f2 hSv) f2.2 hK (by rw [f2.1 53 K (by omega) (by omega) (by omega)]; exact h0) (by unfold szS; rw [f2.1 53 K (by omega) (by omega) (by omega), f2.1 55 K (by omega) (by omega) (by omega)]; exact g3) g1 2 (by omega)
              rw [e57] at s0
              rw [f1.1 (57 + K) (j + 1) (by omega) (by omega) (by omega)] at s1
              rw [f2.1 (57 + K) (j + 2) (by omega) (by omega) (by omega)] at s2
              refine Eq.trans s0 (Eq.trans s1 (Eq.trans s2 ?_))
              rw [b_X11_takeYard_75, if_pos (by omega), b_X11_takeYard_109]
              rfl
            · rw [if_neg o2, if_neg (fun q => o2 q.2.2.2)]
          · rw [if_neg o1, if_neg (fun q => o1 q.2.2.1)]
        · rw [if_neg (show ¬ (lo 0 ≤ v (57 + K) (j + 0) ∧ v (57 + K) (j + 0) ≤ hi 0) from o0), if_neg (fun q => o0 q.2.1)]
      · rw [if_pos (by omega), b_X11_takeYard_31, if_neg (fun q => g3 q.1.2.2)]
    · rw [if_pos (by omega), b_X11_takeYard_31, if_neg (fun q => g2 q.1.2.1)]
  · rw [if_neg (by omega), b_X11_takeYard_31, if_neg (fun q => g1 q.1.1)]
end OJ3
end
section
/-! yards(): the reference's turn, and both -/
section OK3
variable {L : Nat} {xs : Nat → Int} {d : Nat} {u v w : Nat → Nat → Int} {k n : Nat}
theorem yr_set {x1 x2 x3 x4 : Int} {y j q : Nat} {z : Int} (hC : 0 ≤ u 63 5 ∧ u 63 5 ≤ 40) (hy : y < 30) (hj : j + q < 360) (hq : q < 3) (hz : u 88 (j + q) = z) (hz2 : -128 ≤ z ∧ z ≤ 127) : qG L xs (d + 1) CX12_yards 219 [(2, 63), (0, x1), (0, x2), (0, x3), (0, x4), (0, 1), (0, (y : Int)), (0, (j : Int)), (0, (q : Int))] [] (qS u) = qG L xs (d + 1) CX12_yards 219 [(2, 63), (0, x1), (0, x2), (0, x3), (0, x4), (0, 1), (0, (y : Int)), (0, (j : Int)), (0, (q : Int) + 1)] [] (qS (chM u (atM q y) z)) := by
  have ea : atM q y = 30 * q + y := if_pos hq
  conv => lhs; rw [b_X12_yards_219, if_pos (by omega), b_X12_yards_225, if_neg (by omega), b_X12_yards_230, w32_id (z := (j : Int) + (q : Int)) (by omega) (by omega), if_pos (by omega), show ((j : Int) + (q : Int)).toNat = j + q by omega, hz, w32_id (z := 30 * (q : Int)) (by omega) (by omega), w32_id (z := 30 * (q : Int) + (y : Int)) (by omega) (by omega), show 30 * (q : Int) + (y : Int) = ((atM q y : Nat) : Int) by omega, b_X12_yards_249, w32_id (z := z) (by omega) (by omega), mr_becomes hC (by omega), qB_some, psh_some, b_X12_yards_253, w32_id (by omega) (by omega)]
/-- a turn of the reference -/
theorem mr_yard {K i t y : Nat} {I x3 : Int} (u6 u7 u8 : pm_V) (hf : yfM u v) (hS : rlS v) (hB : v 49 2 ≤ 50) (hK : K < 6) (h0 : v 53 K = 0) (hI : 0 ≤ I ∧ I < 2147483648) (ht : (t : Int) < x3.tmod 100) (ht2 : t < 30) (hy : (x3.tdiv 100) + t = (y : Int)) (hx : 0 ≤ x3 ∧ x3 < 2147483648) : qG L xs (d + 3) CX12_yards 91 [(2, 63), (0, (K : Int)), (0, I), (0, x3), (0, (t : Int)), (0, 1), u6, u7, u8] [] (qS u) = if (y < 30 ∧ I + 3 * t + 3 ≤ szS v K) ∧ okY (v (57 + K)) (I + 3 * t).toNat then qG L xs (d + 3) CX12_yards 91 [(2, 63), (0, (K : Int)), (0, I), (0, x3), (0, (t : Int) + 1), (0, 1), (0, (y : Int)), (0, 60 * K + (I + 3 * t)), (0, 3)] [] (qS (chM3 u y (v (57 + K)) (I + 3 * t).toNat)) else some (some (0, (t : Int)), qS u) := by
  obtain ⟨m1, m2, m3⟩ := mS_at hS hB K hK
  have m4 := m3 (by omega)
  have hz := szS_in hS K hK
  have e87 : u 87 K = szS v K := (hf.1 87 K (by omega) (by omega) (by omega)).trans m4.2
  have e88 : ∀ i, i < 60 → u 88 (60 * K + i) = v (57 + K) i ∧ -128 ≤ v (57 + K) i ∧ v (57 + K) i ≤ 127 := fun i hi => by
    have a := ((hS K hK).2.2.2 (by omega)).2.2.2 i hi
    exact ⟨(hf.1 88 _ (by omega) (by omega) (by omega)).trans a.1, a.2.1 h0⟩
  have en : ∀ x6 x7 : Int, qG L xs (d + 3) CX12_yards 213 [(2, 63), (0, (K : Int)), (0, I), (0, x3), (0, (t : Int)), (0, 0), (0, x6), (0, x7), u8] [] (qS u) = some (some (0, (t : Int)), qS u) := fun x6 x7 => by
    rw [b_X12_yards_213, b_X12_yards_214, b_X12_yards_219, if_pos (by omega), b_X12_yards_225, if_pos rfl, b_X12_yards_260, if_pos rfl, b_X12_yards_271, b_X12_yards_272, w32_id (by omega) (by omega), b_X12_yards_91, if_pos rfl, b_X12_yards_278, show (t : Int) + 0 = t by omega]
  have en1 : ∀ x6 x7 : Int, qG L xs (d + 3) CX12_yards 213 [(2, 63), (0, (K : Int)), (0, I), (0, x3), (0, (t : Int)), (0, 1), (0, x6), (0, x7), u8] [] (qS u) = some (some (0, (t : Int)), qS u) := fun x6 x7 => by
    rw [b_X12_yards_213, b_X12_yards_214, b_X12_yards_219, if_pos (by omega), b_X12_yards_225, if_pos rfl, b_X12_yards_260, if_pos rfl, b_X12_yards_271, b_X12_yards_272, w32_id (by omega) (by omega), b_X12_yards_91, if_pos rfl, b_X12_yards_278, show (t : Int) + 0 = t by omega]
  have td : 0 ≤ x3.tdiv 100 ∧ x3.tdiv 100 < 21474837 := by
    rw [td_pos 100 hx.1]
    omega
  conv => lhs; rw [b_X12_yards_91, if_neg (by omega), b_X12_yards_96, if_pos ht, b_X12_yards_105, if_pos (by omega), Int.toNat_natCast, e87, w32_id (z := x3.tdiv 100) (by omega) (by omega), w32_id (z := x3.tdiv 100 + (t : Int)) (by omega) (by omega), hy, b_X12_yards_121, w32_id (z := szS v K - 3) (by omega) (by omega), w32_id (z := 3 * (t : Int)) (by omega) (by omega), w32_id (by omega) (by omega)]
  by_cases g1 : I + 3 * t + 3 ≤ szS v K
  · rw [if_neg (by omega), b_X12_yards_131]
    by_cases g2 : y < 30
    · obtain ⟨j, hj⟩ : ∃ j : Nat, I + 3 * t = (j : Int) := ⟨(I + 3 * t).toNat, by omega⟩
      rw [if_pos (by omega), b_X12_yards_138, b_X12_yards_143, if_neg (by decide), w32_id (z := 60 * (K : Int)) (by omega) (by omega), w32_id (z := 60 * (K : Int) + I) (by omega) (by omega), w32_id (z := 3 * (t : Int)) (by omega) (by omega), w32_id (by omega) (by omega), hj, Int.toNat_natCast, show 60 * (K : Int) + I + 3 * (t : Int) = ((60 * K + j : Nat) : Int) by omega, show 60 * (K : Int) + (j : Int) = ((60 * K + j : Nat) : Int) by omega]
      have v0 := e88 j (by omega)
      have v1 := e88 (j + 1) (by omega)
      have v2 := e88 (j + 2) (by omega)
      rw [b_X12_yards_163, if_pos (by omega), Int.toNat_natCast, v0.1, b_X12_yards_171]
      have ma := mr_may (L := L) (xs := xs) (d := d + 1) (v := u) (k := 0) (by omega) (v (57 + K) j)
      have mb := mr_may (L := L) (xs := xs) (d := d + 1) (v := u) (k := 1) (by omega) (v (57 + K) (j + 1))
      have mc := mr_may (L := L) (xs := xs) (d := d + 1) (v := u) (k := 2) (by omega) (v (57 + K) (j + 2))
      rw [show ((0 : Nat) : Int) = 0 from rfl] at ma
      rw [show ((1 : Nat) : Int) = 1 from rfl] at mb
      rw [show ((2 : Nat) : Int) = 2 from rfl] at mc
      rw [ma, qB_some, psh_some, b_X12_yards_174, zb_0]
      by_cases o0 : lo 0 ≤ v (57 + K) j ∧ v (57 + K) j ≤ hi 0
      · rw [if_pos o0, b_X12_yards_177, w32_id (by omega) (by omega), if_pos (by omega), show (((60 * K + j : Nat) : Int) + 1).toNat = 60 * K + (j + 1) by omega, v1.1, b_X12_yards_187, mb, qB_some, psh_some, b_X12_yards_190, zb_0]
        by_cases o1 : lo 1 ≤ v (57 + K) (j + 1) ∧ v (57 + K) (j + 1) ≤ hi 1
        · rw [if_pos o1, b_X12_yards_193, w32_id (by omega) (by omega), if_pos (by omega), show (((60 * K + j : Nat) : Int) + 2).toNat = 60 * K + (j + 2) by omega, v2.1, b_X12_yards_203, mc, qB_some, psh_some, b_X12_yards_206, zb_0]
          by_cases o2 : lo 2 ≤ v (57 + K) (j + 2) ∧ v (57 + K) (j + 2) ≤ hi 2
          · rw [if_pos o2, if_pos ⟨⟨g2, by omega⟩, o0, o1, o2⟩, b_X12_yards_209, b_X12_yards_214]
            have f1 := yfM_ch (a := atM 0 y) hf (v (57 + K) j)
            have f2 := yfM_ch (a := atM 1 y) f1 (v (57 + K) (j + 1))
            have s0 := yr_set (L := L) (xs := xs) (d := d + 2) (x1 := (K : Int)) (x2 := I) (x3 := x3) (x4 := (t : Int)) (y := y) (j := 60 * K + j) (q := 0) hf.2 g2 (by omega) (by omega) (show u 88 (60 * K + j + 0) = _ from v0.1) v0.2
            have s1 := yr_set (L := L) (xs := xs) (d := d + 2) (x1 := (K : Int)) (x2 := I) (x3 := x3) (x4 := (t : Int)) (y := y) (j := 60 * K + j) (q := 1) f1.2 g2 (by omega) (by omega) (((f1.1 88 _ (by omega) (by omega) (by omega)).trans (hf.1 88 _ (by omega) (by omega) (by omega)).symm).trans v1.1) v1.2
            have s2 := yr_set (L := L) (xs := xs) (d := d + 2) (x1 := (K : Int)) (x2 := I) (x3 := x3) (x4 := (t : Int)) (y := y) (j := 60 * K + j) (q := 2) f2.2 g2 (by omega) (by omega) (((f2.1 88 _ (by omega) (by omega) (by omega)).trans (hf.1 88 _ (by omega) (by omega) (by omega)).symm).trans v2.1) v2.2
            refine Eq.trans s0 (Eq.trans s1 (Eq.trans s2 ?_))
            rw [b_X12_yards_219, if_neg (by omega), b_X12_yards_260, if_neg (by decide), b_X12_yards_267, b_X12_yards_272, w32_id (by omega) (by omega)]
            rfl
          · rw [if_neg o2, en1, if_neg (fun q => o2 q.2.2.2)]
        · rw [if_neg o1, en1, if_neg (fun q => o1 q.2.2.1)]
      · rw [if_neg o0, en1, if_neg (fun q => o0 q.2.1)]
    · rw [if_neg (by omega), b_X12_yards_142, b_X12_yards_143, if_pos rfl, en, if_neg (fun q => g2 q.1.1)]
  · rw [if_pos (by omega), b_X12_yards_142, b_X12_yards_143, if_pos rfl, en, if_neg (fun q => g1 q.1.2)]
/-- BOTH loops, side by side -/
theorem yd_both {K : Nat} {I x3 : Int} (hR : rlR v) (hK : K < 6) (h0 : v 53 K = 0) (hI : 0 ≤ I ∧ I < 2147483648) (hx : 0 ≤ x3 ∧ x3 < 2147483648) : ∀ (m t : Nat) (u : Nat → Nat → Int), yfC u v → t ≤ 30 → x3.tmod 100 ≤ 30 → (t : Int) + m = x3.tmod 100 → ∃ r u', qG L xs 999 CX11_yards 76 [(2, 0), (0, (K : Int)), (0, I), (0, x3), (0, x3.tdiv 100), (0, x3.tmod 100), (0, (t : Int))] [] (qS u) = some (some (0, r), qS u') ∧ yfC u' v ∧ ∀ w, yfM w v → rlR (mix u w) → ∀ u6 u7 u8 : pm_V, ∃ w', qG L xs 999 CX12_yards 91 [(2, 63), (0, (K : Int)), (0, I), (0, x3), (0, (t : Int)), (0, 1), u6, u7, u8] [] (qS w) = some (some (0, r), qS w') ∧ rlR (mix u' w') ∧ ∀ c j, c < 63 → w' c j = w c j
  | 0, t, u, hf, ht, hx2, hm => by
    refine ⟨(t : Int), u, ?_, hf, fun w hw hr u6 u7 u8 => ⟨w, ?_, hr, fun _ _ _ => rfl⟩⟩
    · rw [b_X11_yards_76, if_neg (by omega), b_X11_yards_112]
    · rw [b_X12_yards_91, if_neg (by decide), b_X12_yards_96, if_neg (by omega), b_X12_yards_278]
  | m + 1, t, u, hf, ht, hx2, hm => by
    have td : 0 ≤ x3.tdiv 100 ∧ x3.tdiv 100 < 21474837 := by
      rw [td_pos 100 hx.1]
      omega
    obtain ⟨y, hy⟩ : ∃ y : Nat, x3.tdiv 100 + t = (y : Int) := ⟨(x3.tdiv 100 + t).toNat, by omega⟩
    have hS := hR.2.2.2.2.2.2.2.1
    have hB := hR.2.2.2.2.2.2.1.1.2
    have ct := cr_takeYard (L := L) (xs := xs) (d := 993) (y := y) (i := I + 3 * t) hf hS hK h0 (by omega)
    have e1 : qG L xs 999 CX11_yards 76 [(2, 0), (0, (K : Int)), (0, I), (0, x3), (0, x3.tdiv 100), (0, x3.tmod 100), (0, (t : Int))] [] (qS u) = qB (qE L xs 999 nX11_takeYard [(2, 0), (0, (K : Int)), (1, I + 3 * t), (0, (y : Int))] (qS u)) (fun r σ => qG L xs 999 CX11_yards 103 [(2, 0), (0, (K : Int)), (0, I), (0, x3), (0, x3.tdiv 100), (0, x3.tmod 100), (0, (t : Int))] (pm_psh r []) σ) := by
      rw [b_X11_yards_76, if_pos (by omega), b_X11_yards_83, w64_id (z := 3 * (t : Int)) (by omega) (by omega), w64_id (by omega) (by omega), w32_id (z := x3.tdiv 100 + (t : Int)) (by omega) (by omega), hy]
    rw [e1, ct]
    by_cases g : (y < 30 ∧ 0 ≤ I + 3 * t ∧ I + 3 * t + 3 ≤ szS v K) ∧ okY (v (57 + K)) (I + 3 * t).toNat
    · rw [if_pos g, qB_some, psh_some, b_X11_yards_103, if_neg (by decide), b_X11_yards_106, w32_id (by omega) (by omega)]
      have hf3 : yfC (chC3 u y (v (57 + K)) (I + 3 * t).toNat) v := yfC_ch (yfC_ch (yfC_ch hf (by omega) _) (by omega) _) (by omega) _
      obtain ⟨r, u', q1, q2, q3⟩ := yd_both hR hK h0 hI hx m (t + 1) _ hf3 (by omega) hx2 (by omega)
      rw [show ((t + 1 : Nat) : Int) = (t : Int) + 1 by omega] at q1
      refine ⟨r, u', q1, q2, fun w hw hr u6 u7 u8 => ?_⟩
      have hw3 : yfM (chM3 w y (v (57 + K)) (I + 3 * t).toNat) v := yfM_ch (yfM_ch (yfM_ch hw _) _) _
      obtain ⟨w', k1, k2, k3⟩ := q3 _ hw3 (rR_ch3 hr g.1.1 g.2) (0, (y : Int)) (0, 60 * (K : Int) + (I + 3 * t)) (0, 3)
      rw [show ((t + 1 : Nat) : Int) = (t : Int) + 1 by omega] at k1
      refine ⟨w', ?_, k2, fun c j hc => (k3 c j hc).trans ?_⟩
      · rw [← k1, mr_yard (i := 0) (d := 996) u6 u7 u8 hw hS hB hK h0 hI (by omega) (by omega) hy hx, if_pos ⟨⟨g.1.1, g.1.2.2⟩, g.2⟩]
      · unfold chM3
        rw [chM_ne _ (by omega) (by omega) (by omega), chM_ne _ (by omega) (by omega) (by omega), chM_ne _ (by omega) (by omega) (by omega)]
    · rw [if_neg g, qB_some, psh_some, b_X11_yards_103, if_pos rfl, b_X11_yards_112]
      refine ⟨(t : Int), u, rfl, hf, fun w hw hr u6 u7 u8 => ⟨w, ?_, hr, fun _ _ _ => rfl⟩⟩
      rw [mr_yard (i := 0) (d := 996) u6 u7 u8 hw hS hB hK h0 hI (by omega) (by omega) hy hx, if_neg (fun q => g ⟨⟨q.1.1, by omega, q.1.2⟩, q.2⟩)]
end OK3
end
section
/-! yards keeps the relation -/
section OL3
variable {L : Nat} {xs : Nat → Int} {d : Nat} {u v w : Nat → Nat → Int} {k n : Nat}
theorem opr_yards (h : rlR v) (a i y : Int) (hi : -2147483648 ≤ i ∧ i < 2147483648) (hy : y < 2147483648) : opR L xs v nX11_yards nX12_yards 0 [(0, a), (0, i), (0, y)] := by
  have hS := h.2.2.2.2.2.2.2.1
  have hB := h.2.2.2.2.2.2.1.1.2
  obtain ⟨c1, c2, c3⟩ := h.2.1
  by_cases y0 : 0 ≤ y
  · have td := td_pos 100 y0
    have tm := tm_pos 100 y0
    have tdr : 0 ≤ y.tdiv 100 ∧ y.tdiv 100 < 21474837 := by omega
    have tmr : 0 ≤ y.tmod 100 ∧ y.tmod 100 < 100 := by omega
    by_cases g : (0 ≤ a ∧ a < 6) ∧ y.tdiv 100 < 30 ∧ 1 ≤ y.tmod 100 ∧ y.tmod 100 ≤ 30
    · obtain ⟨K, rfl⟩ : ∃ K : Nat, a = (K : Int) := ⟨a.toNat, by omega⟩
      have hK : K < 6 := by omega
      obtain ⟨m1, m2, m3⟩ := mS_at hS hB K hK
      have q := hS K hK
      have cb : qE L xs 1000 nX11_yards [(2, 0), (0, (K : Int)), (0, i), (0, y)] (qS v) = qG L xs 999 CX11_yards 45 [(2, 0), (0, (K : Int)), (0, i), (0, y), (0, y.tdiv 100), (0, y.tmod 100), (9, 0)] [] (qS v) := by
        rw [e_X11_yards, b_X11_yards_0, cs_has, qB_some, psh_some, b_X11_yards_16, zb_0, if_pos g.1, b_X11_yards_19, if_neg (by omega), w32_id (by omega) (by omega), b_X11_yards_23, if_pos g.2.1, b_X11_yards_30, if_neg (by omega), b_X11_yards_36, if_neg (by omega)]
      have mb : ∀ w : Nat → Nat → Int, qE L xs 1000 nX12_yards [(2, 63), (0, (K : Int)), (0, i), (0, y)] (qS w) = qG L xs 999 CX12_yards 43 [(2, 63), (0, (K : Int)), (0, i), (0, y), (9, 0), (9, 0), (9, 0), (9, 0), (9, 0)] [] (qS w) := fun w => by
        rw [e_X12_yards, b_X12_yards_0, ms_isShelf, qB_some, psh_some, b_X12_yards_4, zb_0, if_pos g.1, b_X12_yards_7, if_neg (by omega), b_X12_yards_11, w32_id (by omega) (by omega), c_within, qB_some, psh_some, b_X12_yards_23, zb_0, if_pos (by omega), b_X12_yards_26, c_within, qB_some, psh_some, b_X12_yards_38, zb_0, if_pos (by omega)]
      by_cases g1 : v 53 K = -1
      · refine opR_no (r := 0) h ?_ ?_
        · rw [cb, b_X11_yards_45, cr_isEmpty K hK, qB_some, psh_some, b_X11_yards_53, zb_0, if_pos g1, b_X11_yards_56]
        · rw [mb, b_X12_yards_43, if_pos (by omega), Int.toNat_natCast, b_X12_yards_49, if_pos (m1.mpr g1), b_X12_yards_66, if_pos (by omega), Int.toNat_natCast, b_X12_yards_75, if_neg (by have := m1.mpr g1; omega), b_X12_yards_88, b_X12_yards_89, b_X12_yards_91, if_pos rfl, b_X12_yards_278]
      · by_cases g2 : v 53 K = 0
        · have m4 := m3 (by omega)
          have cb2 : qE L xs 1000 nX11_yards [(2, 0), (0, (K : Int)), (0, i), (0, y)] (qS v) = qG L xs 999 CX11_yards 76 [(2, 0), (0, (K : Int)), (0, i), (0, y), (0, y.tdiv 100), (0, y.tmod 100), (0, 0)] [] (qS v) := by
            rw [cb, b_X11_yards_45, cr_isEmpty K hK, qB_some, psh_some, b_X11_yards_53, zb_0, if_neg g1, b_X11_yards_58, cr_holdsRow K hK, qB_some, psh_some, b_X11_yards_67, zb_0, if_pos g2, b_X11_yards_73]
          have mb2 : ∀ w : Nat → Nat → Int, w 86 K = 50 → qE L xs 1000 nX12_yards [(2, 63), (0, (K : Int)), (0, i), (0, y)] (qS w) = qG L xs 999 CX12_yards 80 [(2, 63), (0, (K : Int)), (0, i), (0, y), (0, 0), (9, 0), (9, 0), (9, 0), (9, 0)] [] (qS w) := fun w hw => by
            rw [mb w, b_X12_yards_43, if_pos (by omega), Int.toNat_natCast, b_X12_yards_49, if_neg (by omega), b_X12_yards_52, if_pos (by omega), Int.toNat_natCast, b_X12_yards_58, if_pos hw, b_X12_yards_66, if_pos (by omega), Int.toNat_natCast, b_X12_yards_75, if_pos hw]
          by_cases g3 : 0 ≤ i
          · have fC : yfC v v := ⟨fun _ _ _ _ _ => rfl, by omega⟩
            obtain ⟨r, u', q1, q2, q3⟩ := yd_both (L := L) (xs := xs) (K := K) (I := i) (x3 := y) h hK g2 ⟨g3, hi.2⟩ ⟨y0, hy⟩ (y.tmod 100).toNat 0 v fC (by omega) (by omega) (by omega)
            have o : ∀ c j, 63 ≤ c → u' c j = v c j := fun c j q => q2.1 c j (by omega) (by omega) (by omega)
            obtain ⟨w', k1, k2, k3⟩ := q3 u' ⟨fun c j z1 z2 z3 => o c j z3, by rw [o _ _ (by omega)]; omega⟩ (by rw [mx_out o]; exact h) (9, 0) (9, 0) (9, 0)
            rw [mx_in k3] at k2
            refine ⟨r, u', w', ?_, ?_, k2⟩
            · rw [cb2]
              exact q1
            · rw [mb2 u' (by rw [o _ _ (by omega)]; omega), b_X12_yards_80, if_neg (by omega), b_X12_yards_84, b_X12_yards_89]
              exact k1
          · refine opR_no (r := 0) h ?_ ?_
            · rw [cb2, b_X11_yards_76, if_pos (by omega), b_X11_yards_83, w64_id (z := 3 * 0) (by omega) (by omega), w64_id (by omega) (by omega), w32_id (z := y.tdiv 100 + 0) (by omega) (by omega), e_X11_takeYard, b_X11_takeYard_0, if_pos (by omega), b_X11_takeYard_7, if_pos (by omega), b_X11_takeYard_31, qB_some, psh_some, b_X11_yards_103, if_pos rfl, b_X11_yards_112]
            · rw [mb2 v (by omega), b_X12_yards_80, if_pos (by omega), b_X12_yards_88, b_X12_yards_89, b_X12_yards_91, if_pos rfl, b_X12_yards_278]
        · refine opR_no (r := -12) h ?_ ?_
          · rw [cb, b_X11_yards_45, cr_isEmpty K hK, qB_some, psh_some, b_X11_yards_53, zb_0, if_neg g1, b_X11_yards_58, cr_holdsRow K hK, qB_some, psh_some, b_X11_yards_67, zb_0, if_neg g2, b_X11_yards_70]
          · have : ¬ v 86 K < 0 := fun q => g1 (m1.mp q)
            have : v 86 K ≠ 50 := fun z => by
              by_cases q : 0 ≤ v 53 K
              · have := m3 q
                omega
              · have := m2.mpr (by omega)
                omega
            rw [mb, b_X12_yards_43, if_pos (by omega), Int.toNat_natCast, b_X12_yards_49, if_neg (by omega), b_X12_yards_52, if_pos (by omega), Int.toNat_natCast, b_X12_yards_58, if_neg (by omega), b_X12_yards_63]
    · refine opR_no (r := -1) h ?_ ?_
      · rw [e_X11_yards, b_X11_yards_0, cs_has, qB_some, psh_some, b_X11_yards_16, zb_0]
        by_cases g1 : 0 ≤ a ∧ a < 6
        · rw [if_pos g1, b_X11_yards_19, if_neg (by omega), w32_id (by omega) (by omega), b_X11_yards_23]
          by_cases g2 : y.tdiv 100 < 30
          · rw [if_pos g2, b_X11_yards_30]
            by_cases g3 : y.tmod 100 < 1
            · rw [if_pos g3, b_X11_yards_43]
            · rw [if_neg g3, b_X11_yards_36, if_pos (by omega), b_X11_yards_43]
          · rw [if_neg g2, b_X11_yards_43]
        · rw [if_neg g1, b_X11_yards_43]
      · rw [e_X12_yards, b_X12_yards_0, ms_isShelf, qB_some, psh_some, b_X12_yards_4, zb_0]
        by_cases g1 : 0 ≤ a ∧ a < 6
        · rw [if_pos g1, b_X12_yards_7, if_neg (by omega), b_X12_yards_11, w32_id (by omega) (by omega), c_within, qB_some, psh_some, b_X12_yards_23, zb_0]
          by_cases g2 : y.tdiv 100 < 30
          · rw [if_pos (by omega), b_X12_yards_26, c_within, qB_some, psh_some, b_X12_yards_38, zb_0, if_neg (by omega), b_X12_yards_41]
          · rw [if_neg (by omega), b_X12_yards_41]
        · rw [if_neg g1, b_X12_yards_41]
  · refine opR_no (r := -1) h ?_ ?_
    · rw [e_X11_yards, b_X11_yards_0, cs_has, qB_some, psh_some, b_X11_yards_16, zb_0]
      by_cases g1 : 0 ≤ a ∧ a < 6
      · rw [if_pos g1, b_X11_yards_19, if_pos (by omega), b_X11_yards_43]
      · rw [if_neg g1, b_X11_yards_43]
    · rw [e_X12_yards, b_X12_yards_0, ms_isShelf, qB_some, psh_some, b_X12_yards_4, zb_0]
      by_cases g1 : 0 ≤ a ∧ a < 6
      · rw [if_pos g1, b_X12_yards_7, if_pos (by omega), b_X12_yards_41]
      · rw [if_neg g1, b_X12_yards_41]
end OL3
end
