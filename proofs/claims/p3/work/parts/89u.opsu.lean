/-! ACT in general: both run the bodies (written by wip/p1/89u.opsu.py) -/
section OU3
variable {L : Nat} {xs : Nat → Int} {d : Nat} {v u w : Nat → Nat → Int}
/-- the brick b is of the KIND o -/
def bOK (u : Nat → Nat → Int) (b o : Int) : Prop := (0 ≤ b ∧ b < u 49 2) ∧ u 49 2 ≤ 50 ∧ u 50 b.toNat = o
theorem bOK_nCs {b o : Int} (h : bOK u b o) (l : List Int) : bOK (nCs u l) b o := by
  unfold bOK at h ⊢
  rw [nCs_ne (by omega) (by omega), nCs_ne (by omega) (by omega)]
  exact h
theorem cr_wkind {b o : Int} (h : bOK u b o) : qE L xs (d + 2) nX0_kindOf [(2, 49), (0, b)] (qS u) = some (some (0, o), qS u) := by
  rw [e_X0_kindOf, b_X0_kindOf_0, cb_has _ h.2.1, qB_some, psh_some, b_X0_kindOf_5, zb_0, if_pos h.1, b_X0_kindOf_8, if_pos (by have := h.1; have := h.2.1; omega), b_X0_kindOf_14, b_X0_kindOf_18, h.2.2]
theorem cr_run {b : Int} {o : Int} (ho : 0 ≤ o ∧ o < 8) : ∀ (n : Nat) (k t x dep : Int) (u : Nat → Nat → Int), (0 ≤ k ∧ k < 8) → (0 ≤ t ∧ t < 4) → (0 ≤ dep ∧ dep + n ≤ 40) → bOK u b o → acE o n k t = true → (0 ≤ u 49 3 ∧ u 49 3 + (acL o n k t).length ≤ 2000000) → qE L xs (d + 2 * n + 6) nX0_run [(2, 49), (0, b), (0, k), (0, t), (0, x), (0, dep)] (qS u) = some (some (0, acV o b n k t x), qS (nCs u (acL o n k t))) := by
  intro n
  induction n with
  | zero => exact fun k t x dep u hk ht hd hb hE hl => absurd hE (by unfold acE; decide)
  | succ n ih =>
    intro k t x dep u hk ht hd hb hE hl
    obtain ⟨K, rfl⟩ : ∃ K : Nat, k = (K : Int) := ⟨k.toNat, by omega⟩
    obtain ⟨T, rfl⟩ : ∃ T : Nat, t = (T : Int) := ⟨t.toNat, by omega⟩
    obtain ⟨z, lf⟩ := lpr_fd (L := L) (xs := xs) (d := d + 2 * n + 5) (u := u) b (K : Int) x dep T (by omega) 8 0 K (by omega) (by omega)
    rw [show ((0 : Nat) : Int) = 0 from rfl] at lf
    have hf := fdF_in K (by omega) T (by omega)
    have hB := fdF_B K (by omega) T (by omega)
    have eV : acV o b (n + 1) (K : Int) (T : Int) x = acW o b (acV o b n) (bdy (fdF 8 (K : Int) (T : Int)) (T : Int)) (kaI (fdF 8 (K : Int) (T : Int))) x := rfl
    have eL : acL o (n + 1) (K : Int) (T : Int) = acX o (acL o n) (bdy (fdF 8 (K : Int) (T : Int)) (T : Int)) (kaI (fdF 8 (K : Int) (T : Int))) := rfl
    have hE2 : acZ o (acE o n) (bdy (fdF 8 (K : Int) (T : Int)) (T : Int)) (kaI (fdF 8 (K : Int) (T : Int))) = true := hE
    have ix : pm_lof [1, 10, 11, 2, 20, 0, 0, 0, 0, 30, 0, 0, 0, 41, 40, 0, 0, 0, 50, 0, 0, 0, 0, 60, 70, 0, 0, 0, 0, 80, 0, 81] (4 * fdF 8 (K : Int) (T : Int) + (T : Int)).toNat = bdy (fdF 8 (K : Int) (T : Int)) (T : Int) := rfl
    rw [eV, eL]
    rw [eL] at hl
    generalize hF : fdF 8 (K : Int) (T : Int) = f at *
    generalize hBB : bdy f (T : Int) = B at *
    generalize hA : kaI f = a at *
    have run : qE L xs (d + 2 * (n + 1) + 6) nX0_run [(2, 49), (0, b), (0, (K : Int)), (0, (T : Int)), (0, x), (0, dep)] (qS u) = qB (qE L xs (d + 2 * n + 7) nX0_runBody [(2, 49), (0, B), (0, b), (0, a), (0, x), (0, dep + 1)] (qS (nC u B))) (fun r σ => qG L xs (d + 2 * n + 7) CX0_run 106 [(2, 49), (0, b), (0, (K : Int)), (0, (T : Int)), (0, x), (0, dep), (0, f), (0, z)] (pm_psh r []) σ) := by
      have hl1 : u 49 3 < 2147483647 := by omega
      rw [show d + 2 * (n + 1) + 6 = (d + 2 * n + 7) + 1 by omega, e_X0_run, b_X0_run_0, lf, b_X0_run_49, cb_hasKind, qB_some, psh_some, b_X0_run_54, zb_0, if_pos (by omega), b_X0_run_57, if_pos (by omega), b_X0_run_66, w32_id (z := 4 * f) (by omega) (by omega), w32_id (by omega) (by omega), if_pos (by omega), ix, b_X0_run_77, cr_wnote B ⟨hl.1, hl1⟩, qB_some, psh_none, b_X0_run_80, w32_id (z := 4 * f) (by omega) (by omega), w32_id (by omega) (by omega), if_pos (by omega), ix, b_X0_run_91, cr_kindAbove f hf, qB_some, psh_some, hA, b_X0_run_97, w32_id (z := dep + 1) (by omega) (by omega)]
    have hb1 : bOK (nC u B) b o := bOK_nCs hb [B]
    have h3 : nC u B 49 3 = u 49 3 + 1 := up_eq _ _ _ _
    have bod : qE L xs (d + 2 * n + 7) nX0_runBody [(2, 49), (0, B), (0, b), (0, a), (0, x), (0, dep + 1)] (qS (nC u B)) = qG L xs (d + 2 * n + 6) CX0_runBody 5 [(2, 49), (0, B), (0, b), (0, a), (0, x), (0, dep + 1), (9, 0)] [(0, o)] (qS (nC u B)) := by
      rw [show d + 2 * n + 7 = (d + 2 * n + 6) + 1 by omega, e_X0_runBody, b_X0_runBody_0, cr_wkind hb1, qB_some, psh_some]
    rw [run, bod]
    unfold isB at hB
    rcases hB with e | e | e | e | e | e | e | e | e | e | e | e | e
    · subst e
      rw [b_X0_runBody_5_v1 (h := rfl), b_X0_runBody_124, qB_some, psh_some, b_X0_run_106]
      rfl
    · subst e
      have hE3 : (acE o n o 1 && acE o n o 2) = true := hE2
      obtain ⟨q1, q2⟩ := Bool.and_eq_true_iff.mp hE3
      have hl2 : u 49 3 + (((acL o n o 1 ++ acL o n o 2).length + 1 : Nat) : Int) ≤ 2000000 := hl.2
      rw [List.length_append] at hl2
      have i1 := ih o 1 x (dep + 1) (nC u 2) ho (by omega) (by omega) hb1 q1 (by omega)
      have n1 := nCs_n (acL o n o 1) (nC u 2)
      have i2 := ih o 2 1 (dep + 1) (nCs (nC u 2) (acL o n o 1)) ho (by omega) (by omega) (bOK_nCs hb1 _) q2 (by omega)
      rw [b_X0_runBody_5_v2 (h := rfl), b_X0_runBody_129, i1, qB_some, psh_some, b_X0_runBody_141, i2, qB_some, psh_some, b_X0_runBody_152, qB_some, psh_some, b_X0_run_106, ← nCs_app]
      rfl
    · subst e
      have q1 : acE o n o 0 = true := hE2
      have hl2 : u 49 3 + (((acL o n o 0).length + 1 : Nat) : Int) ≤ 2000000 := hl.2
      have i1 := ih o 0 x (dep + 1) (nC u 10) ho (by omega) (by omega) hb1 q1 (by omega)
      rw [b_X0_runBody_5_v10 (h := rfl), b_X0_runBody_154, i1, qB_some, psh_some, b_X0_runBody_166, qB_some, psh_some, b_X0_run_106]
      rfl
    · subst e
      rw [b_X0_runBody_5_v11 (h := rfl), b_X0_runBody_169, qB_some, psh_some, b_X0_run_106]
      rfl
    · subst e
      have hE3 : (decide (0 ≤ a ∧ a < 8) && acE o n a 0) = true := hE2
      obtain ⟨q0, q1⟩ := Bool.and_eq_true_iff.mp hE3
      have ha := of_decide_eq_true q0
      have hl2 : u 49 3 + (((acL o n a 0).length + 1 : Nat) : Int) ≤ 2000000 := hl.2
      have i1 := ih a 0 x (dep + 1) (nC u 20) ha (by omega) (by omega) hb1 q1 (by omega)
      rw [b_X0_runBody_5_v20 (h := rfl), b_X0_runBody_174, i1, qB_some, psh_some, b_X0_runBody_185, qB_some, psh_some, b_X0_run_106]
      rfl
    · subst e
      have hE3 : (decide (0 ≤ a ∧ a < 8) && acE o n a 1) = true := hE2
      obtain ⟨q0, q1⟩ := Bool.and_eq_true_iff.mp hE3
      have ha := of_decide_eq_true q0
      have hl2 : u 49 3 + (((acL o n a 1).length + 1 : Nat) : Int) ≤ 2000000 := hl.2
      have i1 := ih a 1 x (dep + 1) (nC u 30) ha (by omega) (by omega) hb1 q1 (by omega)
      rw [b_X0_runBody_5_v30 (h := rfl), b_X0_runBody_188, i1, qB_some, psh_some, b_X0_runBody_199, qB_some, psh_some, b_X0_run_106]
      rfl
    · subst e
      have hE3 : (decide (0 ≤ a ∧ a < 8) && acE o n a 2) = true := hE2
      obtain ⟨q0, q1⟩ := Bool.and_eq_true_iff.mp hE3
      have ha := of_decide_eq_true q0
      have hl2 : u 49 3 + (((acL o n a 2).length + 1 : Nat) : Int) ≤ 2000000 := hl.2
      have i1 := ih a 2 x (dep + 1) (nC u 40) ha (by omega) (by omega) hb1 q1 (by omega)
      rw [b_X0_runBody_5_v40 (h := rfl), b_X0_runBody_201, i1, qB_some, psh_some, b_X0_runBody_212, qB_some, psh_some, b_X0_run_106]
      rfl
    · subst e
      have hE3 : (decide (0 ≤ a ∧ a < 8) && acE o n a 1) = true := hE2
      obtain ⟨q0, q1⟩ := Bool.and_eq_true_iff.mp hE3
      have ha := of_decide_eq_true q0
      have hl2 : u 49 3 + (((acL o n a 1).length + 1 : Nat) : Int) ≤ 2000000 := hl.2
      have i1 := ih a 1 (w32 (x + 1)) (dep + 1) (nC u 41) ha (by omega) (by omega) hb1 q1 (by omega)
      rw [b_X0_runBody_5_v41 (h := rfl), b_X0_runBody_215, i1, qB_some, psh_some, b_X0_runBody_228, qB_some, psh_some, b_X0_run_106]
      rfl
    · subst e
      have hE3 : (decide (0 ≤ a ∧ a < 8) && (acE o n a 2 && acE o n o 0)) = true := hE2
      obtain ⟨q0, q12⟩ := Bool.and_eq_true_iff.mp hE3
      obtain ⟨q1, q2⟩ := Bool.and_eq_true_iff.mp q12
      have ha := of_decide_eq_true q0
      have hl2 : u 49 3 + (((acL o n a 2 ++ acL o n o 0).length + 1 : Nat) : Int) ≤ 2000000 := hl.2
      rw [List.length_append] at hl2
      have i1 := ih a 2 x (dep + 1) (nC u 50) ha (by omega) (by omega) hb1 q1 (by omega)
      have n1 := nCs_n (acL o n a 2) (nC u 50)
      have i2 := ih o 0 2 (dep + 1) (nCs (nC u 50) (acL o n a 2)) ho (by omega) (by omega) (bOK_nCs hb1 _) q2 (by omega)
      rw [b_X0_runBody_5_v50 (h := rfl), b_X0_runBody_229, i1, qB_some, psh_some, b_X0_runBody_240, i2, qB_some, psh_some, b_X0_runBody_251, qB_some, psh_some, b_X0_run_106, ← nCs_app]
      rfl
    · subst e
      have hE3 : (decide (0 ≤ a ∧ a < 8) && acE o n a 3) = true := hE2
      obtain ⟨q0, q1⟩ := Bool.and_eq_true_iff.mp hE3
      have ha := of_decide_eq_true q0
      have hl2 : u 49 3 + (((acL o n a 3).length + 1 : Nat) : Int) ≤ 2000000 := hl.2
      have i1 := ih a 3 x (dep + 1) (nC u 60) ha (by omega) (by omega) hb1 q1 (by omega)
      rw [b_X0_runBody_5_v60 (h := rfl), b_X0_runBody_253, i1, qB_some, psh_some, b_X0_runBody_264, qB_some, psh_some, b_X0_run_106]
      rfl
    · subst e
      have hE3 : (decide (0 ≤ a ∧ a < 8) && acE o n a 0) = true := hE2
      obtain ⟨q0, q1⟩ := Bool.and_eq_true_iff.mp hE3
      have ha := of_decide_eq_true q0
      have hl2 : u 49 3 + (((acL o n a 0).length + 1 : Nat) : Int) ≤ 2000000 := hl.2
      have i1 := ih a 0 x (dep + 1) (nC u 70) ha (by omega) (by omega) hb1 q1 (by omega)
      rw [b_X0_runBody_5_v70 (h := rfl), b_X0_runBody_267, i1, qB_some, psh_some, b_X0_runBody_278, qB_some, psh_some, b_X0_run_106]
      rfl
    · subst e
      have hE3 : (decide (0 ≤ a ∧ a < 8) && (acE o n a 1 && acE o n o 2)) = true := hE2
      obtain ⟨q0, q12⟩ := Bool.and_eq_true_iff.mp hE3
      obtain ⟨q1, q2⟩ := Bool.and_eq_true_iff.mp q12
      have ha := of_decide_eq_true q0
      have hl2 : u 49 3 + (((acL o n a 1 ++ acL o n o 2).length + 1 : Nat) : Int) ≤ 2000000 := hl.2
      rw [List.length_append] at hl2
      have i1 := ih a 1 x (dep + 1) (nC u 80) ha (by omega) (by omega) hb1 q1 (by omega)
      have n1 := nCs_n (acL o n a 1) (nC u 80)
      have i2 := ih o 2 2 (dep + 1) (nCs (nC u 80) (acL o n a 1)) ho (by omega) (by omega) (bOK_nCs hb1 _) q2 (by omega)
      rw [b_X0_runBody_5_v80 (h := rfl), b_X0_runBody_281, i1, qB_some, psh_some, b_X0_runBody_292, i2, qB_some, psh_some, b_X0_runBody_303, qB_some, psh_some, b_X0_run_106, ← nCs_app]
      rfl
    · subst e
      have hE3 : (decide (0 ≤ a ∧ a < 8) && acE o n a 3) = true := hE2
      obtain ⟨q0, q1⟩ := Bool.and_eq_true_iff.mp hE3
      have ha := of_decide_eq_true q0
      have hl2 : u 49 3 + (((acL o n a 3).length + 1 : Nat) : Int) ≤ 2000000 := hl.2
      have i1 := ih a 3 x (dep + 1) (nC u 81) ha (by omega) (by omega) hb1 q1 (by omega)
      rw [b_X0_runBody_5_v81 (h := rfl), b_X0_runBody_305, i1, qB_some, psh_some, b_X0_runBody_316, qB_some, psh_some, b_X0_run_106]
      rfl
def mth (t : Int) : Nat := if t = 0 then nX12_standsAs else if t = 1 then nX12_bearsAs else if t = 2 then nX12_knocksAs else nX12_tellsAs
def mOK (v : Nat → Nat → Int) (b o : Int) : Prop := v 63 43 = o ∧ v 63 44 = b
theorem mOK_nMs {b o : Int} (h : mOK v b o) (l : List Int) : mOK (nMs v l) b o := by
  unfold mOK at h ⊢
  rw [nMs_ne (by omega) (by omega), nMs_ne (by omega) (by omega)]
  exact h
theorem k8 {k : Int} (h : 0 ≤ k ∧ k < 8) : k = 0 ∨ k = 1 ∨ k = 2 ∨ k = 3 ∨ k = 4 ∨ k = 5 ∨ k = 6 ∨ k = 7 := by omega
theorem mr_run {b : Int} {o : Int} (ho : 0 ≤ o ∧ o < 8) : ∀ (n : Nat) (k t x : Int) (v : Nat → Nat → Int), (0 ≤ k ∧ k < 8) → (0 ≤ t ∧ t < 4) → mOK v b o → acE o n k t = true → (0 ≤ v 63 42 ∧ v 63 42 + (acL o n k t).length ≤ 2000000) → qE L xs (d + n + 2) (mth t) [(2, 63), (0, k), (0, x)] (qS v) = some (some (0, acV o b n k t x), qS (nMs v (acL o n k t))) := by
  intro n
  induction n with
  | zero => exact fun k t x v hk ht hb hE hl => absurd hE (by unfold acE; decide)
  | succ n ih =>
    intro k t x v hk ht hb hE hl
    have hl1 : 0 ≤ v 63 42 ∧ v 63 42 < 2147483647 := by omega
    have h4 : t = 0 ∨ t = 1 ∨ t = 2 ∨ t = 3 := by omega
    rw [show d + (n + 1) + 2 = (d + n + 2) + 1 by omega]
    rcases h4 with rfl | rfl | rfl | rfl
    · show qE L xs (d + n + 2 + 1) nX12_standsAs _ _ = _
      rcases k8 hk with rfl | rfl | rfl | rfl | rfl | rfl | rfl | rfl
      · have hb1 : mOK (nM v 1) b o := mOK_nMs hb [1]
        have h3 : nM v 1 63 42 = v 63 42 + 1 := up_eq _ _ _ _
        rw [e_X12_standsAs, b_X12_standsAs_0, if_neg (by decide), b_X12_standsAs_5, if_neg (by decide), b_X12_standsAs_10, if_neg (by decide), b_X12_standsAs_31, if_neg (by decide), b_X12_standsAs_52, mr_begins _ hl1, qB_some, psh_none, b_X12_standsAs_57, hb1.2]
        rfl
      · have hb1 : mOK (nM v 20) b o := mOK_nMs hb [20]
        have h3 : nM v 20 63 42 = v 63 42 + 1 := up_eq _ _ _ _
        have q1 : acE o n 0 0 = true := (Bool.and_eq_true_iff.mp (show (decide (0 ≤ (0 : Int) ∧ (0 : Int) < 8) && acE o n 0 0) = true from hE)).2
        have hl2 : v 63 42 + (((acL o n 0 0).length + 1 : Nat) : Int) ≤ 2000000 := hl.2
        have i1 := ih 0 0 x (nM v 20) (by omega) (by omega) hb1 q1 (by omega)
        rw [show mth 0 = nX12_standsAs from rfl] at i1
        rw [e_X12_standsAs, b_X12_standsAs_0, if_pos rfl, b_X12_standsAs_16, mr_begins _ hl1, qB_some, psh_none, b_X12_standsAs_22, i1, qB_some, psh_some, b_X12_standsAs_28]
        rfl
      · have hb1 : mOK (nM v 1) b o := mOK_nMs hb [1]
        have h3 : nM v 1 63 42 = v 63 42 + 1 := up_eq _ _ _ _
        rw [e_X12_standsAs, b_X12_standsAs_0, if_neg (by decide), b_X12_standsAs_5, if_neg (by decide), b_X12_standsAs_10, if_neg (by decide), b_X12_standsAs_31, if_neg (by decide), b_X12_standsAs_52, mr_begins _ hl1, qB_some, psh_none, b_X12_standsAs_57, hb1.2]
        rfl
      · have hb1 : mOK (nM v 1) b o := mOK_nMs hb [1]
        have h3 : nM v 1 63 42 = v 63 42 + 1 := up_eq _ _ _ _
        rw [e_X12_standsAs, b_X12_standsAs_0, if_neg (by decide), b_X12_standsAs_5, if_neg (by decide), b_X12_standsAs_10, if_neg (by decide), b_X12_standsAs_31, if_neg (by decide), b_X12_standsAs_52, mr_begins _ hl1, qB_some, psh_none, b_X12_standsAs_57, hb1.2]
        rfl
      · have hb1 : mOK (nM v 20) b o := mOK_nMs hb [20]
        have h3 : nM v 20 63 42 = v 63 42 + 1 := up_eq _ _ _ _
        have q1 : acE o n 0 0 = true := (Bool.and_eq_true_iff.mp (show (decide (0 ≤ (0 : Int) ∧ (0 : Int) < 8) && acE o n 0 0) = true from hE)).2
        have hl2 : v 63 42 + (((acL o n 0 0).length + 1 : Nat) : Int) ≤ 2000000 := hl.2
        have i1 := ih 0 0 x (nM v 20) (by omega) (by omega) hb1 q1 (by omega)
        rw [show mth 0 = nX12_standsAs from rfl] at i1
        rw [e_X12_standsAs, b_X12_standsAs_0, if_neg (by decide), b_X12_standsAs_5, if_pos rfl, b_X12_standsAs_16, mr_begins _ hl1, qB_some, psh_none, b_X12_standsAs_22, i1, qB_some, psh_some, b_X12_standsAs_28]
        rfl
      · have hb1 : mOK (nM v 1) b o := mOK_nMs hb [1]
        have h3 : nM v 1 63 42 = v 63 42 + 1 := up_eq _ _ _ _
        rw [e_X12_standsAs, b_X12_standsAs_0, if_neg (by decide), b_X12_standsAs_5, if_neg (by decide), b_X12_standsAs_10, if_neg (by decide), b_X12_standsAs_31, if_neg (by decide), b_X12_standsAs_52, mr_begins _ hl1, qB_some, psh_none, b_X12_standsAs_57, hb1.2]
        rfl
      · have hb1 : mOK (nM v 70) b o := mOK_nMs hb [70]
        have h3 : nM v 70 63 42 = v 63 42 + 1 := up_eq _ _ _ _
        have q1 : acE o n 0 0 = true := (Bool.and_eq_true_iff.mp (show (decide (0 ≤ (0 : Int) ∧ (0 : Int) < 8) && acE o n 0 0) = true from hE)).2
        have hl2 : v 63 42 + (((acL o n 0 0).length + 1 : Nat) : Int) ≤ 2000000 := hl.2
        have i1 := ih 0 0 x (nM v 70) (by omega) (by omega) hb1 q1 (by omega)
        rw [show mth 0 = nX12_standsAs from rfl] at i1
        rw [e_X12_standsAs, b_X12_standsAs_0, if_neg (by decide), b_X12_standsAs_5, if_neg (by decide), b_X12_standsAs_10, if_neg (by decide), b_X12_standsAs_31, if_pos rfl, b_X12_standsAs_37, mr_begins _ hl1, qB_some, psh_none, b_X12_standsAs_43, i1, qB_some, psh_some, b_X12_standsAs_49]
        rfl
      · have hb1 : mOK (nM v 20) b o := mOK_nMs hb [20]
        have h3 : nM v 20 63 42 = v 63 42 + 1 := up_eq _ _ _ _
        have q1 : acE o n 0 0 = true := (Bool.and_eq_true_iff.mp (show (decide (0 ≤ (0 : Int) ∧ (0 : Int) < 8) && acE o n 0 0) = true from hE)).2
        have hl2 : v 63 42 + (((acL o n 0 0).length + 1 : Nat) : Int) ≤ 2000000 := hl.2
        have i1 := ih 0 0 x (nM v 20) (by omega) (by omega) hb1 q1 (by omega)
        rw [show mth 0 = nX12_standsAs from rfl] at i1
        rw [e_X12_standsAs, b_X12_standsAs_0, if_neg (by decide), b_X12_standsAs_5, if_neg (by decide), b_X12_standsAs_10, if_pos rfl, b_X12_standsAs_16, mr_begins _ hl1, qB_some, psh_none, b_X12_standsAs_22, i1, qB_some, psh_some, b_X12_standsAs_28]
        rfl
    · show qE L xs (d + n + 2 + 1) nX12_bearsAs _ _ = _
      rcases k8 hk with rfl | rfl | rfl | rfl | rfl | rfl | rfl | rfl
      · have hb1 : mOK (nM v 10) b o := mOK_nMs hb [10]
        have h3 : nM v 10 63 42 = v 63 42 + 1 := up_eq _ _ _ _
        have q1 : acE o n o 0 = true := hE
        have hl2 : v 63 42 + (((acL o n o 0).length + 1 : Nat) : Int) ≤ 2000000 := hl.2
        have i1 := ih o 0 x (nM v 10) ho (by omega) hb1 q1 (by omega)
        rw [show mth 0 = nX12_standsAs from rfl] at i1
        rw [e_X12_bearsAs, b_X12_bearsAs_0, if_neg (by decide), b_X12_bearsAs_5, if_neg (by decide), b_X12_bearsAs_25, if_neg (by decide), b_X12_bearsAs_44, if_neg (by decide), b_X12_bearsAs_75, mr_begins _ hl1, qB_some, psh_none, b_X12_bearsAs_81, hb1.1, i1, qB_some, psh_some, b_X12_bearsAs_90]
        rfl
      · have hb1 : mOK (nM v 10) b o := mOK_nMs hb [10]
        have h3 : nM v 10 63 42 = v 63 42 + 1 := up_eq _ _ _ _
        have q1 : acE o n o 0 = true := hE
        have hl2 : v 63 42 + (((acL o n o 0).length + 1 : Nat) : Int) ≤ 2000000 := hl.2
        have i1 := ih o 0 x (nM v 10) ho (by omega) hb1 q1 (by omega)
        rw [show mth 0 = nX12_standsAs from rfl] at i1
        rw [e_X12_bearsAs, b_X12_bearsAs_0, if_neg (by decide), b_X12_bearsAs_5, if_neg (by decide), b_X12_bearsAs_25, if_neg (by decide), b_X12_bearsAs_44, if_neg (by decide), b_X12_bearsAs_75, mr_begins _ hl1, qB_some, psh_none, b_X12_bearsAs_81, hb1.1, i1, qB_some, psh_some, b_X12_bearsAs_90]
        rfl
      · have hb1 : mOK (nM v 30) b o := mOK_nMs hb [30]
        have h3 : nM v 30 63 42 = v 63 42 + 1 := up_eq _ _ _ _
        have q1 : acE o n 0 1 = true := (Bool.and_eq_true_iff.mp (show (decide (0 ≤ (0 : Int) ∧ (0 : Int) < 8) && acE o n 0 1) = true from hE)).2
        have hl2 : v 63 42 + (((acL o n 0 1).length + 1 : Nat) : Int) ≤ 2000000 := hl.2
        have i1 := ih 0 1 x (nM v 30) (by omega) (by omega) hb1 q1 (by omega)
        rw [show mth 1 = nX12_bearsAs from rfl] at i1
        rw [e_X12_bearsAs, b_X12_bearsAs_0, if_neg (by decide), b_X12_bearsAs_5, if_neg (by decide), b_X12_bearsAs_25, if_pos rfl, b_X12_bearsAs_30, mr_begins _ hl1, qB_some, psh_none, b_X12_bearsAs_36, i1, qB_some, psh_some, b_X12_bearsAs_42]
        rfl
      · have hb1 : mOK (nM v 41) b o := mOK_nMs hb [41]
        have h3 : nM v 41 63 42 = v 63 42 + 1 := up_eq _ _ _ _
        have q1 : acE o n 2 1 = true := (Bool.and_eq_true_iff.mp (show (decide (0 ≤ (2 : Int) ∧ (2 : Int) < 8) && acE o n 2 1) = true from hE)).2
        have hl2 : v 63 42 + (((acL o n 2 1).length + 1 : Nat) : Int) ≤ 2000000 := hl.2
        have i1 := ih 2 1 (w32 (x + 1)) (nM v 41) (by omega) (by omega) hb1 q1 (by omega)
        rw [show mth 1 = nX12_bearsAs from rfl] at i1
        rw [e_X12_bearsAs, b_X12_bearsAs_0, if_pos rfl, b_X12_bearsAs_10, mr_begins _ hl1, qB_some, psh_none, b_X12_bearsAs_16, i1, qB_some, psh_some, b_X12_bearsAs_24]
        rfl
      · have hb1 : mOK (nM v 10) b o := mOK_nMs hb [10]
        have h3 : nM v 10 63 42 = v 63 42 + 1 := up_eq _ _ _ _
        have q1 : acE o n o 0 = true := hE
        have hl2 : v 63 42 + (((acL o n o 0).length + 1 : Nat) : Int) ≤ 2000000 := hl.2
        have i1 := ih o 0 x (nM v 10) ho (by omega) hb1 q1 (by omega)
        rw [show mth 0 = nX12_standsAs from rfl] at i1
        rw [e_X12_bearsAs, b_X12_bearsAs_0, if_neg (by decide), b_X12_bearsAs_5, if_neg (by decide), b_X12_bearsAs_25, if_neg (by decide), b_X12_bearsAs_44, if_neg (by decide), b_X12_bearsAs_75, mr_begins _ hl1, qB_some, psh_none, b_X12_bearsAs_81, hb1.1, i1, qB_some, psh_some, b_X12_bearsAs_90]
        rfl
      · have hb1 : mOK (nM v 41) b o := mOK_nMs hb [41]
        have h3 : nM v 41 63 42 = v 63 42 + 1 := up_eq _ _ _ _
        have q1 : acE o n 2 1 = true := (Bool.and_eq_true_iff.mp (show (decide (0 ≤ (2 : Int) ∧ (2 : Int) < 8) && acE o n 2 1) = true from hE)).2
        have hl2 : v 63 42 + (((acL o n 2 1).length + 1 : Nat) : Int) ≤ 2000000 := hl.2
        have i1 := ih 2 1 (w32 (x + 1)) (nM v 41) (by omega) (by omega) hb1 q1 (by omega)
        rw [show mth 1 = nX12_bearsAs from rfl] at i1
        rw [e_X12_bearsAs, b_X12_bearsAs_0, if_neg (by decide), b_X12_bearsAs_5, if_pos rfl, b_X12_bearsAs_10, mr_begins _ hl1, qB_some, psh_none, b_X12_bearsAs_16, i1, qB_some, psh_some, b_X12_bearsAs_24]
        rfl
      · have hb1 : mOK (nM v 10) b o := mOK_nMs hb [10]
        have h3 : nM v 10 63 42 = v 63 42 + 1 := up_eq _ _ _ _
        have q1 : acE o n o 0 = true := hE
        have hl2 : v 63 42 + (((acL o n o 0).length + 1 : Nat) : Int) ≤ 2000000 := hl.2
        have i1 := ih o 0 x (nM v 10) ho (by omega) hb1 q1 (by omega)
        rw [show mth 0 = nX12_standsAs from rfl] at i1
        rw [e_X12_bearsAs, b_X12_bearsAs_0, if_neg (by decide), b_X12_bearsAs_5, if_neg (by decide), b_X12_bearsAs_25, if_neg (by decide), b_X12_bearsAs_44, if_neg (by decide), b_X12_bearsAs_75, mr_begins _ hl1, qB_some, psh_none, b_X12_bearsAs_81, hb1.1, i1, qB_some, psh_some, b_X12_bearsAs_90]
        rfl
      · have hb1 : mOK (nM v 80) b o := mOK_nMs hb [80]
        have h3 : nM v 80 63 42 = v 63 42 + 1 := up_eq _ _ _ _
        have q12 := Bool.and_eq_true_iff.mp (Bool.and_eq_true_iff.mp (show (decide (0 ≤ (4 : Int) ∧ (4 : Int) < 8) && (acE o n 4 1 && acE o n o 2)) = true from hE)).2
        have hl2 : v 63 42 + (((acL o n 4 1 ++ acL o n o 2).length + 1 : Nat) : Int) ≤ 2000000 := hl.2
        rw [List.length_append] at hl2
        have i1 := ih 4 1 x (nM v 80) (by omega) (by omega) hb1 q12.1 (by omega)
        rw [show mth 1 = nX12_bearsAs from rfl] at i1
        have n1 := nMs_n (acL o n 4 1) (nM v 80)
        have hb2 := mOK_nMs hb1 (acL o n 4 1)
        have i2 := ih o 2 2 (nMs (nM v 80) (acL o n 4 1)) ho (by omega) hb2 q12.2 (by omega)
        rw [show mth 2 = nX12_knocksAs from rfl] at i2
        rw [e_X12_bearsAs, b_X12_bearsAs_0, if_neg (by decide), b_X12_bearsAs_5, if_neg (by decide), b_X12_bearsAs_25, if_neg (by decide), b_X12_bearsAs_44, if_pos rfl, b_X12_bearsAs_50, mr_begins _ hl1, qB_some, psh_none, b_X12_bearsAs_56, i1, qB_some, psh_some, b_X12_bearsAs_62, hb2.1, i2, qB_some, psh_some, b_X12_bearsAs_73, ← nMs_app]
        rfl
    · show qE L xs (d + n + 2 + 1) nX12_knocksAs _ _ = _
      rcases k8 hk with rfl | rfl | rfl | rfl | rfl | rfl | rfl | rfl
      · have hb1 : mOK (nM v 11) b o := mOK_nMs hb [11]
        have h3 : nM v 11 63 42 = v 63 42 + 1 := up_eq _ _ _ _
        rw [e_X12_knocksAs, b_X12_knocksAs_0, if_neg (by decide), b_X12_knocksAs_5, if_neg (by decide), b_X12_knocksAs_25, if_neg (by decide), b_X12_knocksAs_30, if_neg (by decide), b_X12_knocksAs_61, mr_begins _ hl1, qB_some, psh_none, b_X12_knocksAs_67, hb1.2]
        rfl
      · have hb1 : mOK (nM v 11) b o := mOK_nMs hb [11]
        have h3 : nM v 11 63 42 = v 63 42 + 1 := up_eq _ _ _ _
        rw [e_X12_knocksAs, b_X12_knocksAs_0, if_neg (by decide), b_X12_knocksAs_5, if_neg (by decide), b_X12_knocksAs_25, if_neg (by decide), b_X12_knocksAs_30, if_neg (by decide), b_X12_knocksAs_61, mr_begins _ hl1, qB_some, psh_none, b_X12_knocksAs_67, hb1.2]
        rfl
      · have hb1 : mOK (nM v 11) b o := mOK_nMs hb [11]
        have h3 : nM v 11 63 42 = v 63 42 + 1 := up_eq _ _ _ _
        rw [e_X12_knocksAs, b_X12_knocksAs_0, if_neg (by decide), b_X12_knocksAs_5, if_neg (by decide), b_X12_knocksAs_25, if_neg (by decide), b_X12_knocksAs_30, if_neg (by decide), b_X12_knocksAs_61, mr_begins _ hl1, qB_some, psh_none, b_X12_knocksAs_67, hb1.2]
        rfl
      · have hb1 : mOK (nM v 40) b o := mOK_nMs hb [40]
        have h3 : nM v 40 63 42 = v 63 42 + 1 := up_eq _ _ _ _
        have q1 : acE o n 2 2 = true := (Bool.and_eq_true_iff.mp (show (decide (0 ≤ (2 : Int) ∧ (2 : Int) < 8) && acE o n 2 2) = true from hE)).2
        have hl2 : v 63 42 + (((acL o n 2 2).length + 1 : Nat) : Int) ≤ 2000000 := hl.2
        have i1 := ih 2 2 x (nM v 40) (by omega) (by omega) hb1 q1 (by omega)
        rw [show mth 2 = nX12_knocksAs from rfl] at i1
        rw [e_X12_knocksAs, b_X12_knocksAs_0, if_pos rfl, b_X12_knocksAs_10, mr_begins _ hl1, qB_some, psh_none, b_X12_knocksAs_16, i1, qB_some, psh_some, b_X12_knocksAs_22]
        rfl
      · have hb1 : mOK (nM v 50) b o := mOK_nMs hb [50]
        have h3 : nM v 50 63 42 = v 63 42 + 1 := up_eq _ _ _ _
        have q12 := Bool.and_eq_true_iff.mp (Bool.and_eq_true_iff.mp (show (decide (0 ≤ (1 : Int) ∧ (1 : Int) < 8) && (acE o n 1 2 && acE o n o 0)) = true from hE)).2
        have hl2 : v 63 42 + (((acL o n 1 2 ++ acL o n o 0).length + 1 : Nat) : Int) ≤ 2000000 := hl.2
        rw [List.length_append] at hl2
        have i1 := ih 1 2 x (nM v 50) (by omega) (by omega) hb1 q12.1 (by omega)
        rw [show mth 2 = nX12_knocksAs from rfl] at i1
        have n1 := nMs_n (acL o n 1 2) (nM v 50)
        have hb2 := mOK_nMs hb1 (acL o n 1 2)
        have i2 := ih o 0 2 (nMs (nM v 50) (acL o n 1 2)) ho (by omega) hb2 q12.2 (by omega)
        rw [show mth 0 = nX12_standsAs from rfl] at i2
        rw [e_X12_knocksAs, b_X12_knocksAs_0, if_neg (by decide), b_X12_knocksAs_5, if_neg (by decide), b_X12_knocksAs_25, if_pos rfl, b_X12_knocksAs_36, mr_begins _ hl1, qB_some, psh_none, b_X12_knocksAs_42, i1, qB_some, psh_some, b_X12_knocksAs_48, hb2.1, i2, qB_some, psh_some, b_X12_knocksAs_59, ← nMs_app]
        rfl
      · have hb1 : mOK (nM v 40) b o := mOK_nMs hb [40]
        have h3 : nM v 40 63 42 = v 63 42 + 1 := up_eq _ _ _ _
        have q1 : acE o n 2 2 = true := (Bool.and_eq_true_iff.mp (show (decide (0 ≤ (2 : Int) ∧ (2 : Int) < 8) && acE o n 2 2) = true from hE)).2
        have hl2 : v 63 42 + (((acL o n 2 2).length + 1 : Nat) : Int) ≤ 2000000 := hl.2
        have i1 := ih 2 2 x (nM v 40) (by omega) (by omega) hb1 q1 (by omega)
        rw [show mth 2 = nX12_knocksAs from rfl] at i1
        rw [e_X12_knocksAs, b_X12_knocksAs_0, if_neg (by decide), b_X12_knocksAs_5, if_pos rfl, b_X12_knocksAs_10, mr_begins _ hl1, qB_some, psh_none, b_X12_knocksAs_16, i1, qB_some, psh_some, b_X12_knocksAs_22]
        rfl
      · have hb1 : mOK (nM v 11) b o := mOK_nMs hb [11]
        have h3 : nM v 11 63 42 = v 63 42 + 1 := up_eq _ _ _ _
        rw [e_X12_knocksAs, b_X12_knocksAs_0, if_neg (by decide), b_X12_knocksAs_5, if_neg (by decide), b_X12_knocksAs_25, if_neg (by decide), b_X12_knocksAs_30, if_neg (by decide), b_X12_knocksAs_61, mr_begins _ hl1, qB_some, psh_none, b_X12_knocksAs_67, hb1.2]
        rfl
      · have hb1 : mOK (nM v 50) b o := mOK_nMs hb [50]
        have h3 : nM v 50 63 42 = v 63 42 + 1 := up_eq _ _ _ _
        have q12 := Bool.and_eq_true_iff.mp (Bool.and_eq_true_iff.mp (show (decide (0 ≤ (1 : Int) ∧ (1 : Int) < 8) && (acE o n 1 2 && acE o n o 0)) = true from hE)).2
        have hl2 : v 63 42 + (((acL o n 1 2 ++ acL o n o 0).length + 1 : Nat) : Int) ≤ 2000000 := hl.2
        rw [List.length_append] at hl2
        have i1 := ih 1 2 x (nM v 50) (by omega) (by omega) hb1 q12.1 (by omega)
        rw [show mth 2 = nX12_knocksAs from rfl] at i1
        have n1 := nMs_n (acL o n 1 2) (nM v 50)
        have hb2 := mOK_nMs hb1 (acL o n 1 2)
        have i2 := ih o 0 2 (nMs (nM v 50) (acL o n 1 2)) ho (by omega) hb2 q12.2 (by omega)
        rw [show mth 0 = nX12_standsAs from rfl] at i2
        rw [e_X12_knocksAs, b_X12_knocksAs_0, if_neg (by decide), b_X12_knocksAs_5, if_neg (by decide), b_X12_knocksAs_25, if_neg (by decide), b_X12_knocksAs_30, if_pos rfl, b_X12_knocksAs_36, mr_begins _ hl1, qB_some, psh_none, b_X12_knocksAs_42, i1, qB_some, psh_some, b_X12_knocksAs_48, hb2.1, i2, qB_some, psh_some, b_X12_knocksAs_59, ← nMs_app]
        rfl
    · show qE L xs (d + n + 2 + 1) nX12_tellsAs _ _ = _
      rcases k8 hk with rfl | rfl | rfl | rfl | rfl | rfl | rfl | rfl
      · have hb1 : mOK (nM v 2) b o := mOK_nMs hb [2]
        have h3 : nM v 2 63 42 = v 63 42 + 1 := up_eq _ _ _ _
        have q12 := Bool.and_eq_true_iff.mp (show (acE o n o 1 && acE o n o 2) = true from hE)
        have hl2 : v 63 42 + (((acL o n o 1 ++ acL o n o 2).length + 1 : Nat) : Int) ≤ 2000000 := hl.2
        rw [List.length_append] at hl2
        have i1 := ih o 1 x (nM v 2) ho (by omega) hb1 q12.1 (by omega)
        rw [show mth 1 = nX12_bearsAs from rfl] at i1
        have n1 := nMs_n (acL o n o 1) (nM v 2)
        have hb2 := mOK_nMs hb1 (acL o n o 1)
        have i2 := ih o 2 1 (nMs (nM v 2) (acL o n o 1)) ho (by omega) hb2 q12.2 (by omega)
        rw [show mth 2 = nX12_knocksAs from rfl] at i2
        rw [e_X12_tellsAs, b_X12_tellsAs_0, if_neg (by decide), b_X12_tellsAs_20, if_neg (by decide), b_X12_tellsAs_41, mr_begins _ hl1, qB_some, psh_none, b_X12_tellsAs_46, hb1.1, i1, qB_some, psh_some, b_X12_tellsAs_55, hb2.1, i2, qB_some, psh_some, b_X12_tellsAs_66, ← nMs_app]
        rfl
      · have hb1 : mOK (nM v 2) b o := mOK_nMs hb [2]
        have h3 : nM v 2 63 42 = v 63 42 + 1 := up_eq _ _ _ _
        have q12 := Bool.and_eq_true_iff.mp (show (acE o n o 1 && acE o n o 2) = true from hE)
        have hl2 : v 63 42 + (((acL o n o 1 ++ acL o n o 2).length + 1 : Nat) : Int) ≤ 2000000 := hl.2
        rw [List.length_append] at hl2
        have i1 := ih o 1 x (nM v 2) ho (by omega) hb1 q12.1 (by omega)
        rw [show mth 1 = nX12_bearsAs from rfl] at i1
        have n1 := nMs_n (acL o n o 1) (nM v 2)
        have hb2 := mOK_nMs hb1 (acL o n o 1)
        have i2 := ih o 2 1 (nMs (nM v 2) (acL o n o 1)) ho (by omega) hb2 q12.2 (by omega)
        rw [show mth 2 = nX12_knocksAs from rfl] at i2
        rw [e_X12_tellsAs, b_X12_tellsAs_0, if_neg (by decide), b_X12_tellsAs_20, if_neg (by decide), b_X12_tellsAs_41, mr_begins _ hl1, qB_some, psh_none, b_X12_tellsAs_46, hb1.1, i1, qB_some, psh_some, b_X12_tellsAs_55, hb2.1, i2, qB_some, psh_some, b_X12_tellsAs_66, ← nMs_app]
        rfl
      · have hb1 : mOK (nM v 2) b o := mOK_nMs hb [2]
        have h3 : nM v 2 63 42 = v 63 42 + 1 := up_eq _ _ _ _
        have q12 := Bool.and_eq_true_iff.mp (show (acE o n o 1 && acE o n o 2) = true from hE)
        have hl2 : v 63 42 + (((acL o n o 1 ++ acL o n o 2).length + 1 : Nat) : Int) ≤ 2000000 := hl.2
        rw [List.length_append] at hl2
        have i1 := ih o 1 x (nM v 2) ho (by omega) hb1 q12.1 (by omega)
        rw [show mth 1 = nX12_bearsAs from rfl] at i1
        have n1 := nMs_n (acL o n o 1) (nM v 2)
        have hb2 := mOK_nMs hb1 (acL o n o 1)
        have i2 := ih o 2 1 (nMs (nM v 2) (acL o n o 1)) ho (by omega) hb2 q12.2 (by omega)
        rw [show mth 2 = nX12_knocksAs from rfl] at i2
        rw [e_X12_tellsAs, b_X12_tellsAs_0, if_neg (by decide), b_X12_tellsAs_20, if_neg (by decide), b_X12_tellsAs_41, mr_begins _ hl1, qB_some, psh_none, b_X12_tellsAs_46, hb1.1, i1, qB_some, psh_some, b_X12_tellsAs_55, hb2.1, i2, qB_some, psh_some, b_X12_tellsAs_66, ← nMs_app]
        rfl
      · have hb1 : mOK (nM v 2) b o := mOK_nMs hb [2]
        have h3 : nM v 2 63 42 = v 63 42 + 1 := up_eq _ _ _ _
        have q12 := Bool.and_eq_true_iff.mp (show (acE o n o 1 && acE o n o 2) = true from hE)
        have hl2 : v 63 42 + (((acL o n o 1 ++ acL o n o 2).length + 1 : Nat) : Int) ≤ 2000000 := hl.2
        rw [List.length_append] at hl2
        have i1 := ih o 1 x (nM v 2) ho (by omega) hb1 q12.1 (by omega)
        rw [show mth 1 = nX12_bearsAs from rfl] at i1
        have n1 := nMs_n (acL o n o 1) (nM v 2)
        have hb2 := mOK_nMs hb1 (acL o n o 1)
        have i2 := ih o 2 1 (nMs (nM v 2) (acL o n o 1)) ho (by omega) hb2 q12.2 (by omega)
        rw [show mth 2 = nX12_knocksAs from rfl] at i2
        rw [e_X12_tellsAs, b_X12_tellsAs_0, if_neg (by decide), b_X12_tellsAs_20, if_neg (by decide), b_X12_tellsAs_41, mr_begins _ hl1, qB_some, psh_none, b_X12_tellsAs_46, hb1.1, i1, qB_some, psh_some, b_X12_tellsAs_55, hb2.1, i2, qB_some, psh_some, b_X12_tellsAs_66, ← nMs_app]
        rfl
      · have hb1 : mOK (nM v 2) b o := mOK_nMs hb [2]
        have h3 : nM v 2 63 42 = v 63 42 + 1 := up_eq _ _ _ _
        have q12 := Bool.and_eq_true_iff.mp (show (acE o n o 1 && acE o n o 2) = true from hE)
        have hl2 : v 63 42 + (((acL o n o 1 ++ acL o n o 2).length + 1 : Nat) : Int) ≤ 2000000 := hl.2
        rw [List.length_append] at hl2
        have i1 := ih o 1 x (nM v 2) ho (by omega) hb1 q12.1 (by omega)
        rw [show mth 1 = nX12_bearsAs from rfl] at i1
        have n1 := nMs_n (acL o n o 1) (nM v 2)
        have hb2 := mOK_nMs hb1 (acL o n o 1)
        have i2 := ih o 2 1 (nMs (nM v 2) (acL o n o 1)) ho (by omega) hb2 q12.2 (by omega)
        rw [show mth 2 = nX12_knocksAs from rfl] at i2
        rw [e_X12_tellsAs, b_X12_tellsAs_0, if_neg (by decide), b_X12_tellsAs_20, if_neg (by decide), b_X12_tellsAs_41, mr_begins _ hl1, qB_some, psh_none, b_X12_tellsAs_46, hb1.1, i1, qB_some, psh_some, b_X12_tellsAs_55, hb2.1, i2, qB_some, psh_some, b_X12_tellsAs_66, ← nMs_app]
        rfl
      · have hb1 : mOK (nM v 60) b o := mOK_nMs hb [60]
        have h3 : nM v 60 63 42 = v 63 42 + 1 := up_eq _ _ _ _
        have q1 : acE o n 3 3 = true := (Bool.and_eq_true_iff.mp (show (decide (0 ≤ (3 : Int) ∧ (3 : Int) < 8) && acE o n 3 3) = true from hE)).2
        have hl2 : v 63 42 + (((acL o n 3 3).length + 1 : Nat) : Int) ≤ 2000000 := hl.2
        have i1 := ih 3 3 x (nM v 60) (by omega) (by omega) hb1 q1 (by omega)
        rw [show mth 3 = nX12_tellsAs from rfl] at i1
        rw [e_X12_tellsAs, b_X12_tellsAs_0, if_pos rfl, b_X12_tellsAs_5, mr_begins _ hl1, qB_some, psh_none, b_X12_tellsAs_11, i1, qB_some, psh_some, b_X12_tellsAs_17]
        rfl
      · have hb1 : mOK (nM v 2) b o := mOK_nMs hb [2]
        have h3 : nM v 2 63 42 = v 63 42 + 1 := up_eq _ _ _ _
        have q12 := Bool.and_eq_true_iff.mp (show (acE o n o 1 && acE o n o 2) = true from hE)
        have hl2 : v 63 42 + (((acL o n o 1 ++ acL o n o 2).length + 1 : Nat) : Int) ≤ 2000000 := hl.2
        rw [List.length_append] at hl2
        have i1 := ih o 1 x (nM v 2) ho (by omega) hb1 q12.1 (by omega)
        rw [show mth 1 = nX12_bearsAs from rfl] at i1
        have n1 := nMs_n (acL o n o 1) (nM v 2)
        have hb2 := mOK_nMs hb1 (acL o n o 1)
        have i2 := ih o 2 1 (nMs (nM v 2) (acL o n o 1)) ho (by omega) hb2 q12.2 (by omega)
        rw [show mth 2 = nX12_knocksAs from rfl] at i2
        rw [e_X12_tellsAs, b_X12_tellsAs_0, if_neg (by decide), b_X12_tellsAs_20, if_neg (by decide), b_X12_tellsAs_41, mr_begins _ hl1, qB_some, psh_none, b_X12_tellsAs_46, hb1.1, i1, qB_some, psh_some, b_X12_tellsAs_55, hb2.1, i2, qB_some, psh_some, b_X12_tellsAs_66, ← nMs_app]
        rfl
      · have hb1 : mOK (nM v 81) b o := mOK_nMs hb [81]
        have h3 : nM v 81 63 42 = v 63 42 + 1 := up_eq _ _ _ _
        have q1 : acE o n 4 3 = true := (Bool.and_eq_true_iff.mp (show (decide (0 ≤ (4 : Int) ∧ (4 : Int) < 8) && acE o n 4 3) = true from hE)).2
        have hl2 : v 63 42 + (((acL o n 4 3).length + 1 : Nat) : Int) ≤ 2000000 := hl.2
        have i1 := ih 4 3 x (nM v 81) (by omega) (by omega) hb1 q1 (by omega)
        rw [show mth 3 = nX12_tellsAs from rfl] at i1
        rw [e_X12_tellsAs, b_X12_tellsAs_0, if_neg (by decide), b_X12_tellsAs_20, if_pos rfl, b_X12_tellsAs_26, mr_begins _ hl1, qB_some, psh_none, b_X12_tellsAs_32, i1, qB_some, psh_some, b_X12_tellsAs_38]
        rfl
end OU3
