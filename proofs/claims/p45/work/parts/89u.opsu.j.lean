/-! JOINED: 89u.opsu, 89v.opsv, 89w.opsw, 89x.opsx -/
section
/-! ACT in general: both run the bodies (written by wip/p1/89u.opsu.py) -/
section OU3
variable {L : Nat} {xs : Nat → Int} {d : Nat} {v u w : Nat → Nat → Int}
/-- the brick b is of the KIND o -/
def bOK (u : Nat → Nat → Int) (b o : Int) : Prop := (0 ≤ b ∧ b < u 49 2) ∧ u 49 2 ≤ 50 ∧ u 50 b.toNat = o
theorem bOK_nCs {b o : Int} (h : bOK u b o) (l : List Int) : bOK (nCs u l) b o := by
  unfold bOK at h ⊢
  rw [nCs_ne (by omega) (by omega), nCs_ne (by omega) (by omega)]
  exact h
theorem cr_wkind {b o : Int} (h : bOK u b o) : qE L xs (d + 2) nX0_kindOf [(2, 49), (0, b)] (qS u) = some (some (0, o), qS u) := by
  rw [e_X0_kindOf, b_X0_kindOf_0, cb_has _ h.2.1, qB_some, psh_some, b_X0_kindOf_5, zb_0, if_pos h.1, b_X0_kindOf_8, if_pos (by have := h.1; have := h.2.1; omega), b_X0_kindOf_14, b_X0_kindOf_18, h.2.2]
theorem cr_run {b : Int} {o : Int} (ho : 0 ≤ o ∧ o < 8) : ∀ (n : Nat) (k t x dep : Int) (u : Nat → Nat → Int), (0 ≤ k ∧ k < 8) → (0 ≤ t ∧ t < 4) → (0 ≤ dep ∧ dep + n ≤ 40) → bOK u b o → acE o n k t = true → (0 ≤ u 49 3 ∧ u 49 3 + (acL o n k t).length ≤ 2000000) → qE L xs (d + 2 * n + 6) nX0_run [(2, 49), (0, b), (0, k), (0, t), (0, x), (0, dep)] (qS u) = some (some (0, acV o b n k t x), qS (nCs u (acL o n k t))) := by
  intro n
  induction n with
  | zero => exact fun k t x dep u hk ht hd hb hE hl => absurd hE (by unfold acE; decide)
  | succ n ih =>
    intro k t x dep u hk ht hd hb hE hl
    obtain ⟨K, rfl⟩ : ∃ K : Nat, k = (K : Int) := ⟨k.toNat, by omega⟩
    obtain ⟨T, rfl⟩ : ∃ T : Nat, t = (T : Int) := ⟨t.toNat, by omega⟩
    obtain ⟨z, lf⟩ := lpr_fd (L := L) (xs := xs) (d := d + 2 * n + 5) (u := u) b (K : Int) x dep T (by omega) 8 0 K (by omega) (by omega)
    rw [show ((0 : Nat) : Int) = 0 from rfl] at lf
    have hf := fdF_in K (by omega) T (by omega)
    have hB := fdF_B K (by omega) T (by omega)
    have eV : acV o b (n + 1) (K : Int) (T : Int) x = acW o b (acV o b n) (bdy (fdF 8 (K : Int) (T : Int)) (T : Int)) (kaI (fdF 8 (K : Int) (T : Int))) x := rfl
    have eL : acL o (n + 1) (K : Int) (T : Int) = acX o (acL o n) (bdy (fdF 8 (K : Int) (T : Int)) (T : Int)) (kaI (fdF 8 (K : Int) (T : Int))) := rfl
    have hE2 : acZ o (acE o n) (bdy (fdF 8 (K : Int) (T : Int)) (T : Int)) (kaI (fdF 8 (K : Int) (T : Int))) = true := hE
    have ix : pm_lof [1, 10, 11, 2, 20, 0, 0, 0, 0, 30, 0, 0, 0, 41, 40, 0, 0, 0, 50, 0, 0, 0, 0, 60, 70, 0, 0, 0, 0, 80, 0, 81] (4 * fdF 8 (K : Int) (T : Int) + (T : Int)).toNat = bdy (fdF 8 (K : Int) (T : Int)) (T : Int) := rfl
    rw [eV, eL]
    rw [eL] at hl
    generalize hF : fdF 8 (K : Int) (T : Int) = f at *
    generalize hBB : bdy f (T : Int) = B at *
    generalize hA : kaI f = a at *
    have run : qE L xs (d + 2 * (n + 1) + 6) nX0_run [(2, 49), (0, b), (0, (K : Int)), (0, (T : Int)), (0, x), (0, dep)] (qS u) = qB (qE L xs (d + 2 * n + 7) nX0_runBody [(2, 49), (0, B), (0, b), (0, a), (0, x), (0, dep + 1)] (qS (nC u B))) (fun r σ => qG L xs (d + 2 * n + 7) CX0_run 106 [(2, 49), (0, b), (0, (K : Int)), (0, (T : Int)), (0, x), (0, dep), (0, f), (0, z)] (pm_psh r []) σ) := by
      have hl1 : u 49 3 < 2147483647 := by omega
      rw [show d + 2 * (n + 1) + 6 = (d + 2 * n + 7) + 1 by omega, e_X0_run, b_X0_run_0, lf, b_X0_run_49, cb_hasKind, qB_some, psh_some, b_X0_run_54, zb_0, if_pos (by omega), b_X0_run_57, if_pos (by omega), b_X0_run_66, w32_id (z := 4 * f) (by omega) (by omega), w32_id (by omega) (by omega), if_pos (by omega), ix, b_X0_run_77, cr_wnote B ⟨hl.1, hl1⟩, qB_some, psh_none, b_X0_run_80, w32_id (z := 4 * f) (by omega) (by omega), w32_id (by omega) (by omega), if_pos (by omega), ix, b_X0_run_91, cr_kindAbove f hf, qB_some, psh_some, hA, b_X0_run_97, w32_id (z := dep + 1) (by omega) (by omega)]
    have hb1 : bOK (nC u B) b o := bOK_nCs hb [B]
    have h3 : nC u B 49 3 = u 49 3 + 1 := up_eq _ _ _ _
    have bod : qE L xs (d + 2 * n + 7) nX0_runBody [(2, 49), (0, B), (0, b), (0, a), (0, x), (0, dep + 1)] (qS (nC u B)) = qG L xs (d + 2 * n + 6) CX0_runBody 5 [(2, 49), (0, B), (0, b), (0, a), (0, x), (0, dep + 1), (9, 0)] [(0, o)] (qS (nC u B)) := by
      rw [show d + 2 * n + 7 = (d + 2 * n + 6) + 1 by omega, e_X0_runBody, b_X0_runBody_0, cr_wkind hb1, qB_some, psh_some]
    rw [run, bod]
    unfold isB at hB
    rcases hB with e | e | e | e | e | e | e | e | e | e | e | e | e
    · subst e
      rw [b_X0_runBody_5_v1 (h := rfl), b_X0_runBody_124, qB_some, psh_some, b_X0_run_106]
      rfl
    · subst e
      have hE3 : (acE o n o 1 && acE o n o 2) = true := hE2
      obtain ⟨q1, q2⟩ := Bool.and_eq_true_iff.mp hE3
      have hl2 : u 49 3 + (((acL o n o 1 ++ acL o n o 2).length + 1 : Nat) : Int) ≤ 2000000 := hl.2
      rw [List.length_append] at hl2
      have i1 := ih o 1 x (dep + 1) (nC u 2) ho (by omega) (by omega) hb1 q1 (by omega)
      have n1 := nCs_n (acL o n o 1) (nC u 2)
      have i2 := ih o 2 1 (dep + 1) (nCs (nC u 2) (acL o n o 1)) ho (by omega) (by omega) (bOK_nCs hb1 _) q2 (by omega)
      rw [b_X0_runBody_5_v2 (h := rfl), b_X0_runBody_129, i1, qB_some, psh_some, b_X0_runBody_141, i2, qB_some, psh_some, b_X0_runBody_152, qB_some, psh_some, b_X0_run_106, ← nCs_app]
      rfl
    · subst e
      have q1 : acE o n o 0 = true := hE2
      have hl2 : u 49 3 + (((acL o n o 0).length + 1 : Nat) : Int) ≤ 2000000 := hl.2
      have i1 := ih o 0 x (dep + 1) (nC u 10) ho (by omega) (by omega) hb1 q1 (by omega)
      rw [b_X0_runBody_5_v10 (h := rfl), b_X0_runBody_154, i1, qB_some, psh_some, b_X0_runBody_166, qB_some, psh_some, b_X0_run_106]
      rfl
    · subst e
      rw [b_X0_runBody_5_v11 (h := rfl), b_X0_runBody_169, qB_some, psh_some, b_X0_run_106]
      rfl
    · subst e
      have hE3 : (decide (0 ≤ a ∧ a < 8) && acE o n a 0) = true := hE2
      obtain ⟨q0, q1⟩ := Bool.and_eq_true_iff.mp hE3
      have ha := of_decide_eq_true q0
      have hl2 : u 49 3 + (((acL o n a 0).length + 1 : Nat) : Int) ≤ 2000000 := hl.2
      have i1 := ih a 0 x (dep + 1) (nC u 20) ha (by omega) (by omega) hb1 q1 (by omega)
      rw [b_X0_runBody_5_v20 (h := rfl), b_X0_runBody_174, i1, qB_some, psh_some, b_X0_runBody_185, qB_some, psh_some, b_X0_run_106]
      rfl
    · subst e
      have hE3 : (decide (0 ≤ a ∧ a < 8) && acE o n a 1) = true := hE2
      obtain ⟨q0, q1⟩ := Bool.and_eq_true_iff.mp hE3
      have ha := of_decide_eq_true q0
      have hl2 : u 49 3 + (((acL o n a 1).length + 1 : Nat) : Int) ≤ 2000000 := hl.2
      have i1 := ih a 1 x (dep + 1) (nC u 30) ha (by omega) (by omega) hb1 q1 (by omega)
      rw [b_X0_runBody_5_v30 (h := rfl), b_X0_runBody_188, i1, qB_some, psh_some, b_X0_runBody_199, qB_some, psh_some, b_X0_run_106]
      rfl
    · subst e
      have hE3 : (decide (0 ≤ a ∧ a < 8) && acE o n a 2) = true := hE2
      obtain ⟨q0, q1⟩ := Bool.and_eq_true_iff.mp hE3
      have ha := of_decide_eq_true q0
      have hl2 : u 49 3 + (((acL o n a 2).length + 1 : Nat) : Int) ≤ 2000000 := hl.2
      have i1 := ih a 2 x (dep + 1) (nC u 40) ha (by omega) (by omega) hb1 q1 (by omega)
      rw [b_X0_runBody_5_v40 (h := rfl), b_X0_runBody_201, i1, qB_some, psh_some, b_X0_runBody_212, qB_some, psh_some, b_X0_run_106]
      rfl
    · subst e
      have hE3 : (decide (0 ≤ a ∧ a < 8) && acE o n a 1) = true := hE2
      obtain ⟨q0, q1⟩ := Bool.and_eq_true_iff.mp hE3
      have ha := of_decide_eq_true q0
      have hl2 : u 49 3 + (((acL o n a 1).length + 1 : Nat) : Int) ≤ 2000000 := hl.2
      have i1 := ih a 1 (w32 (x + 1)) (dep + 1) (nC u 41) ha (by omega) (by omega) hb1 q1 (by omega)
      rw [b_X0_runBody_5_v41 (h := rfl), b_X0_runBody_215, i1, qB_some, psh_some, b_X0_runBody_228, qB_some, psh_some, b_X0_run_106]
      rfl
    · subst e
      have hE3 : (decide (0 ≤ a ∧ a < 8) && (acE o n a 2 && acE o n o 0)) = true := hE2
      obtain ⟨q0, q12⟩ := Bool.and_eq_true_iff.mp hE3
      obtain ⟨q1, q2⟩ := Bool.and_eq_true_iff.mp q12
      have ha := of_decide_eq_true q0
      have hl2 : u 49 3 + (((acL o n a 2 ++ acL o n o 0).length + 1 : Nat) : Int) ≤ 2000000 := hl.2
      rw [List.length_append] at hl2
      have i1 := ih a 2 x (dep + 1) (nC u 50) ha (by omega) (by omega) hb1 q1 (by omega)
      have n1 := nCs_n (acL o n a 2) (nC u 50)
      have i2 := ih o 0 2 (dep + 1) (nCs (nC u 50) (acL o n a 2)) ho (by omega) (by omega) (bOK_nCs hb1 _) q2 (by omega)
      rw [b_X0_runBody_5_v50 (h := rfl), b_X0_runBody_229, i1, qB_some, psh_some, b_X0_runBody_240, i2, qB_some, psh_some, b_X0_runBody_251, qB_some, psh_some, b_X0_run_106, ← nCs_app]
      rfl
    · subst e
      have hE3 : (decide (0 ≤ a ∧ a < 8) && acE o n a 3) = true := hE2
      obtain ⟨q0, q1⟩ := Bool.and_eq_true_iff.mp hE3
      have ha := of_decide_eq_true q0
      have hl2 : u 49 3 + (((acL o n a 3).length + 1 : Nat) : Int) ≤ 2000000 := hl.2
      have i1 := ih a 3 x (dep + 1) (nC u 60) ha (by omega) (by omega) hb1 q1 (by omega)
      rw [b_X0_runBody_5_v60 (h := rfl), b_X0_runBody_253, i1, qB_some, psh_some, b_X0_runBody_264, qB_some, psh_some, b_X0_run_106]
      rfl
    · subst e
      have hE3 : (decide (0 ≤ a ∧ a < 8) && acE o n a 0) = true := hE2
      obtain ⟨q0, q1⟩ := Bool.and_eq_true_iff.mp hE3
      have ha := of_decide_eq_true q0
      have hl2 : u 49 3 + (((acL o n a 0).length + 1 : Nat) : Int) ≤ 2000000 := hl.2
      have i1 := ih a 0 x (dep + 1) (nC u 70) ha (by omega) (by omega) hb1 q1 (by omega)
      rw [b_X0_runBody_5_v70 (h := rfl), b_X0_runBody_267, i1, qB_some, psh_some, b_X0_runBody_278, qB_some, psh_some, b_X0_run_106]
      rfl
    · subst e
      have hE3 : (decide (0 ≤ a ∧ a < 8) && (acE o n a 1 && acE o n o 2)) = true := hE2
      obtain ⟨q0, q12⟩ := Bool.and_eq_true_iff.mp hE3
      obtain ⟨q1, q2⟩ := Bool.and_eq_true_iff.mp q12
      have ha := of_decide_eq_true q0
      have hl2 : u 49 3 + (((acL o n a 1 ++ acL o n o 2).length + 1 : Nat) : Int) ≤ 2000000 := hl.2
      rw [List.length_append] at hl2
      have i1 := ih a 1 x (dep + 1) (nC u 80) ha (by omega) (by omega) hb1 q1 (by omega)
      have n1 := nCs_n (acL o n a 1) (nC u 80)
      have i2 := ih o 2 2 (dep + 1) (nCs (nC u 80) (acL o n a 1)) ho (by omega) (by omega) (bOK_nCs hb1 _) q2 (by omega)
      rw [b_X0_runBody_5_v80 (h := rfl), b_X0_runBody_281, i1, qB_some, psh_some, b_X0_runBody_292, i2, qB_some, psh_some, b_X0_runBody_303, qB_some, psh_some, b_X0_run_106, ← nCs_app]
      rfl
    · subst e
      have hE3 : (decide (0 ≤ a ∧ a < 8) && acE o n a 3) = true := hE2
      obtain ⟨q0, q1⟩ := Bool.and_eq_true_iff.mp hE3
      have ha := of_decide_eq_true q0
      have hl2 : u 49 3 + (((acL o n a 3).length + 1 : Nat) : Int) ≤ 2000000 := hl.2
      have i1 := ih a 3 x (dep + 1) (nC u 81) ha (by omega) (by omega) hb1 q1 (by omega)
      rw [b_X0_runBody_5_v81 (h := rfl), b_X0_runBody_305, i1, qB_some, psh_some, b_X0_runBody_316, qB_some, psh_some, b_X0_run_106]
      rfl
def mth (t : Int) : Nat := if t = 0 then nX12_standsAs else if t = 1 then nX12_bearsAs else if t = 2 then nX12_knocksAs else nX12_tellsAs
def mOK (v : Nat → Nat → Int) (b o : Int) : Prop := v 63 43 = o ∧ v 63 44 = b
theorem mOK_nMs {b o : Int} (h : mOK v b o) (l : List Int) : mOK (nMs v l) b o := by
  unfold mOK at h ⊢
  rw [nMs_ne (by omega) (by omega), nMs_ne (by omega) (by omega)]
  exact h
theorem k8 {k : Int} (h : 0 ≤ k ∧ k < 8) : k = 0 ∨ k = 1 ∨ k = 2 ∨ k = 3 ∨ k = 4 ∨ k = 5 ∨ k = 6 ∨ k = 7 := by omega
theorem mr_run {b : Int} {o : Int} (ho : 0 ≤ o ∧ o < 8) : ∀ (n : Nat) (k t x : Int) (v : Nat → Nat → Int), (0 ≤ k ∧ k < 8) → (0 ≤ t ∧ t < 4) → mOK v b o → acE o n k t = true → (0 ≤ v 63 42 ∧ v 63 42 + (acL o n k t).length ≤ 2000000) → qE L xs (d + n + 2) (mth t) [(2, 63), (0, k), (0, x)] (qS v) = some (some (0, acV o b n k t x), qS (nMs v (acL o n k t))) := by
  intro n
  induction n with
  | zero => exact fun k t x v hk ht hb hE hl => absurd hE (by unfold acE; decide)
  | succ n ih =>
    intro k t x v hk ht hb hE hl
    have hl1 : 0 ≤ v 63 42 ∧ v 63 42 < 2147483647 := by omega
    have h4 : t = 0 ∨ t = 1 ∨ t = 2 ∨ t = 3 := by omega
    rw [show d + (n + 1) + 2 = (d + n + 2) + 1 by omega]
    rcases h4 with rfl | rfl | rfl | rfl
    · show qE L xs (d + n + 2 + 1) nX12_standsAs _ _ = _
      rcases k8 hk with rfl | rfl | rfl | rfl | rfl | rfl | rfl | rfl
      · have hb1 : mOK (nM v 1) b o := mOK_nMs hb [1]
        have h3 : nM v 1 63 42 = v 63 42 + 1 := up_eq _ _ _ _
        rw [e_X12_standsAs, b_X12_standsAs_0, if_neg (by decide), b_X12_standsAs_5, if_neg (by decide), b_X12_standsAs_10, if_neg (by decide), b_X12_standsAs_31, if_neg (by decide), b_X12_standsAs_52, mr_begins _ hl1, qB_some, psh_none, b_X12_standsAs_57, hb1.2]
        rfl
      · have hb1 : mOK (nM v 20) b o := mOK_nMs hb [20]
        have h3 : nM v 20 63 42 = v 63 42 + 1 := up_eq _ _ _ _
        have q1 : acE o n 0 0 = true := (Bool.and_eq_true_iff.mp (show (decide (0 ≤ (0 : Int) ∧ (0 : Int) < 8) && acE o n 0 0) = true from hE)).2
        have hl2 : v 63 42 + (((acL o n 0 0).length + 1 : Nat) : Int) ≤ 2000000 := hl.2
        have i1 := ih 0 0 x (nM v 20) (by omega) (by omega) hb1 q1 (by omega)
        rw [show mth 0 = nX12_standsAs from rfl] at i1
        rw [e_X12_standsAs, b_X12_standsAs_0, if_pos rfl, b_X12_standsAs_16, mr_begins _ hl1, qB_some, psh_none, b_X12_standsAs_22, i1, qB_some, psh_some, b_X12_standsAs_28]
        rfl
      · have hb1 : mOK (nM v 1) b o := mOK_nMs hb [1]
        have h3 : nM v 1 63 42 = v 63 42 + 1 := up_eq _ _ _ _
        rw [e_X12_standsAs, b_X12_standsAs_0, if_neg (by decide), b_X12_standsAs_5, if_neg (by decide), b_X12_standsAs_10, if_neg (by decide), b_X12_standsAs_31, if_neg (by decide), b_X12_standsAs_52, mr_begins _ hl1, qB_some, psh_none, b_X12_standsAs_57, hb1.2]
        rfl
      · have hb1 : mOK (nM v 1) b o := mOK_nMs hb [1]
        have h3 : nM v 1 63 42 = v 63 42 + 1 := up_eq _ _ _ _
        rw [e_X12_standsAs, b_X12_standsAs_0, if_neg (by decide), b_X12_standsAs_5, if_neg (by decide), b_X12_standsAs_10, if_neg (by decide), b_X12_standsAs_31, if_neg (by decide), b_X12_standsAs_52, mr_begins _ hl1, qB_some, psh_none, b_X12_standsAs_57, hb1.2]
        rfl
      · have hb1 : mOK (nM v 20) b o := mOK_nMs hb [20]
        have h3 : nM v 20 63 42 = v 63 42 + 1 := up_eq _ _ _ _
        have q1 : acE o n 0 0 = true := (Bool.and_eq_true_iff.mp (show (decide (0 ≤ (0 : Int) ∧ (0 : Int) < 8) && acE o n 0 0) = true from hE)).2
        have hl2 : v 63 42 + (((acL o n 0 0).length + 1 : Nat) : Int) ≤ 2000000 := hl.2
        have i1 := ih 0 0 x (nM v 20) (by omega) (by omega) hb1 q1 (by omega)
        rw [show mth 0 = nX12_standsAs from rfl] at i1
        rw [e_X12_standsAs, b_X12_standsAs_0, if_neg (by decide), b_X12_standsAs_5, if_pos rfl, b_X12_standsAs_16, mr_begins _ hl1, qB_some, psh_none, b_X12_standsAs_22, i1, qB_some, psh_some, b_X12_standsAs_28]
        rfl
      · have hb1 : mOK (nM v 1) b o := mOK_nMs hb [1]
        have h3 : nM v 1 63 42 = v 63 42 + 1 := up_eq _ _ _ _
        rw [e_X12_standsAs, b_X12_standsAs_0, if_neg (by decide), b_X12_standsAs_5, if_neg (by decide), b_X12_standsAs_10, if_neg (by decide), b_X12_standsAs_31, if_neg (by decide), b_X12_standsAs_52, mr_begins _ hl1, qB_some, psh_none, b_X12_standsAs_57, hb1.2]
        rfl
      · have hb1 : mOK (nM v 70) b o := mOK_nMs hb [70]
        have h3 : nM v 70 63 42 = v 63 42 + 1 := up_eq _ _ _ _
        have q1 : acE o n 0 0 = true := (Bool.and_eq_true_iff.mp (show (decide (0 ≤ (0 : Int) ∧ (0 : Int) < 8) && acE o n 0 0) = true from hE)).2
        have hl2 : v 63 42 + (((acL o n 0 0).length + 1 : Nat) : Int) ≤ 2000000 := hl.2
        have i1 := ih 0 0 x (nM v 70) (by omega) (by omega) hb1 q1 (by omega)
        rw [show mth 0 = nX12_standsAs from rfl] at i1
        rw [e_X12_standsAs, b_X12_standsAs_0, if_neg (by decide), b_X12_standsAs_5, if_neg (by decide), b_X12_standsAs_10, if_neg (by decide), b_X12_standsAs_31, if_pos rfl, b_X12_standsAs_37, mr_begins _ hl1, qB_some, psh_none, b_X12_standsAs_43, i1, qB_some, psh_some, b_X12_standsAs_49]
        rfl
      · have hb1 : mOK (nM v 20) b o := mOK_nMs hb [20]
        have h3 : nM v 20 63 42 = v 63 42 + 1 := up_eq _ _ _ _
        have q1 : acE o n 0 0 = true := (Bool.and_eq_true_iff.mp (show (decide (0 ≤ (0 : Int) ∧ (0 : Int) < 8) && acE o n 0 0) = true from hE)).2
        have hl2 : v 63 42 + (((acL o n 0 0).length + 1 : Nat) : Int) ≤ 2000000 := hl.2
        have i1 := ih 0 0 x (nM v 20) (by omega) (by omega) hb1 q1 (by omega)
        rw [show mth 0 = nX12_standsAs from rfl] at i1
        rw [e_X12_standsAs, b_X12_standsAs_0, if_neg (by decide), b_X12_standsAs_5, if_neg (by decide), b_X12_standsAs_10, if_pos rfl, b_X12_standsAs_16, mr_begins _ hl1, qB_some, psh_none, b_X12_standsAs_22, i1, qB_some, psh_some, b_X12_standsAs_28]
        rfl
    · show qE L xs (d + n + 2 + 1) nX12_bearsAs _ _ = _
      rcases k8 hk with rfl | rfl | rfl | rfl | rfl | rfl | rfl | rfl
      · have hb1 : mOK (nM v 10) b o := mOK_nMs hb [10]
        have h3 : nM v 10 63 42 = v 63 42 + 1 := up_eq _ _ _ _
        have q1 : acE o n o 0 = true := hE
        have hl2 : v 63 42 + (((acL o n o 0).length + 1 : Nat) : Int) ≤ 2000000 := hl.2
        have i1 := ih o 0 x (nM v 10) ho (by omega) hb1 q1 (by omega)
        rw [show mth 0 = nX12_standsAs from rfl] at i1
        rw [e_X12_bearsAs, b_X12_bearsAs_0, if_neg (by decide), b_X12_bearsAs_5, if_neg (by decide), b_X12_bearsAs_25, if_neg (by decide), b_X12_bearsAs_44, if_neg (by decide), b_X12_bearsAs_75, mr_begins _ hl1, qB_some, psh_none, b_X12_bearsAs_81, hb1.1, i1, qB_some, psh_some, b_X12_bearsAs_90]
        rfl
      · have hb1 : mOK (nM v 10) b o := mOK_nMs hb [10]
        have h3 : nM v 10 63 42 = v 63 42 + 1 := up_eq _ _ _ _
        have q1 : acE o n o 0 = true := hE
        have hl2 : v 63 42 + (((acL o n o 0).length + 1 : Nat) : Int) ≤ 2000000 := hl.2
        have i1 := ih o 0 x (nM v 10) ho (by omega) hb1 q1 (by omega)
        rw [show mth 0 = nX12_standsAs from rfl] at i1
        rw [e_X12_bearsAs, b_X12_bearsAs_0, if_neg (by decide), b_X12_bearsAs_5, if_neg (by decide), b_X12_bearsAs_25, if_neg (by decide), b_X12_bearsAs_44, if_neg (by decide), b_X12_bearsAs_75, mr_begins _ hl1, qB_some, psh_none, b_X12_bearsAs_81, hb1.1, i1, qB_some, psh_some, b_X12_bearsAs_90]
        rfl
      · have hb1 : mOK (nM v 30) b o := mOK_nMs hb [30]
        have h3 : nM v 30 63 42 = v 63 42 + 1 := up_eq _ _ _ _
        have q1 : acE o n 0 1 = true := (Bool.and_eq_true_iff.mp (show (decide (0 ≤ (0 : Int) ∧ (0 : Int) < 8) && acE o n 0 1) = true from hE)).2
        have hl2 : v 63 42 + (((acL o n 0 1).length + 1 : Nat) : Int) ≤ 2000000 := hl.2
        have i1 := ih 0 1 x (nM v 30) (by omega) (by omega) hb1 q1 (by omega)
        rw [show mth 1 = nX12_bearsAs from rfl] at i1
        rw [e_X12_bearsAs, b_X12_bearsAs_0, if_neg (by decide), b_X12_bearsAs_5, if_neg (by decide), b_X12_bearsAs_25, if_pos rfl, b_X12_bearsAs_30, mr_begins _ hl1, qB_some, psh_none, b_X12_bearsAs_36, i1, qB_some, psh_some, b_X12_bearsAs_42]
        rfl
      · have hb1 : mOK (nM v 41) b o := mOK_nMs hb [41]
        have h3 : nM v 41 63 42 = v 63 42 + 1 := up_eq _ _ _ _
        have q1 : acE o n 2 1 = true := (Bool.and_eq_true_iff.mp (show (decide (0 ≤ (2 : Int) ∧ (2 : Int) < 8) && acE o n 2 1) = true from hE)).2
        have hl2 : v 63 42 + (((acL o n 2 1).length + 1 : Nat) : Int) ≤ 2000000 := hl.2
        have i1 := ih 2 1 (w32 (x + 1)) (nM v 41) (by omega) (by omega) hb1 q1 (by omega)
        rw [show mth 1 = nX12_bearsAs from rfl] at i1
        rw [e_X12_bearsAs, b_X12_bearsAs_0, if_pos rfl, b_X12_bearsAs_10, mr_begins _ hl1, qB_some, psh_none, b_X12_bearsAs_16, i1, qB_some, psh_some, b_X12_bearsAs_24]
        rfl
      · have hb1 : mOK (nM v 10) b o := mOK_nMs hb [10]
        have h3 : nM v 10 63 42 = v 63 42 + 1 := up_eq _ _ _ _
        have q1 : acE o n o 0 = true := hE
        have hl2 : v 63 42 + (((acL o n o 0).length + 1 : Nat) : Int) ≤ 2000000 := hl.2
        have i1 := ih o 0 x (nM v 10) ho (by omega) hb1 q1 (by omega)
        rw [show mth 0 = nX12_standsAs from rfl] at i1
        rw [e_X12_bearsAs, b_X12_bearsAs_0, if_neg (by decide), b_X12_bearsAs_5, if_neg (by decide), b_X12_bearsAs_25, if_neg (by decide), b_X12_bearsAs_44, if_neg (by decide), b_X12_bearsAs_75, mr_begins _ hl1, qB_some, psh_none, b_X12_bearsAs_81, hb1.1, i1, qB_some, psh_some, b_X12_bearsAs_90]
        rfl
      · have hb1 : mOK (nM v 41) b o := mOK_nMs hb [41]
        have h3 : nM v 41 63 42 = v 63 42 + 1 := up_eq _ _ _ _
        have q1 : acE o n 2 1 = true := (Bool.and_eq_true_iff.mp (show (decide (0 ≤ (2 : Int) ∧ (2 : Int) < 8) && acE o n 2 1) = true from hE)).2
        have hl2 : v 63 42 + (((acL o n 2 1).length + 1 : Nat) : Int) ≤ 2000000 := hl.2
        have i1 := ih 2 1 (w32 (x + 1)) (nM v 41) (by omega) (by omega) hb1 q1 (by omega)
        rw [show mth 1 = nX12_bearsAs from rfl] at i1
        rw [e_X12_bearsAs, b_X12_bearsAs_0, if_neg (by decide), b_X12_bearsAs_5, if_pos rfl, b_X12_bearsAs_10, mr_begins _ hl1, qB_some, psh_none, b_X12_bearsAs_16, i1, qB_some, psh_some, b_X12_bearsAs_24]
        rfl
      · have hb1 : mOK (nM v 10) b o := mOK_nMs hb [10]
        have h3 : nM v 10 63 42 = v 63 42 + 1 := up_eq _ _ _ _
        have q1 : acE o n o 0 = true := hE
        have hl2 : v 63 42 + (((acL o n o 0).length + 1 : Nat) : Int) ≤ 2000000 := hl.2
        have i1 := ih o 0 x (nM v 10) ho (by omega) hb1 q1 (by omega)
        rw [show mth 0 = nX12_standsAs from rfl] at i1
        rw [e_X12_bearsAs, b_X12_bearsAs_0, if_neg (by decide), b_X12_bearsAs_5, if_neg (by decide), b_X12_bearsAs_25, if_neg (by decide), b_X12_bearsAs_44, if_neg (by decide), b_X12_bearsAs_75, mr_begins _ hl1, qB_some, psh_none, b_X12_bearsAs_81, hb1.1, i1, qB_some, psh_some, b_X12_bearsAs_90]
        rfl
      · have hb1 : mOK (nM v 80) b o := mOK_nMs hb [80]
        have h3 : nM v 80 63 42 = v 63 42 + 1 := up_eq _ _ _ _
        have q12 := Bool.and_eq_true_iff.mp (Bool.and_eq_true_iff.mp (show (decide (0 ≤ (4 : Int) ∧ (4 : Int) < 8) && (acE o n 4 1 && acE o n o 2)) = true from hE)).2
        have hl2 : v 63 42 + (((acL o n 4 1 ++ acL o n o 2).length + 1 : Nat) : Int) ≤ 2000000 := hl.2
        rw [List.length_append] at hl2
        have i1 := ih 4 1 x (nM v 80) (by omega) (by omega) hb1 q12.1 (by omega)
        rw [show mth 1 = nX12_bearsAs from rfl] at i1
        have n1 := nMs_n (acL o n 4 1) (nM v 80)
        have hb2 := mOK_nMs hb1 (acL o n 4 1)
        have i2 := ih o 2 2 (nMs (nM v 80) (acL o n 4 1)) ho (by omega) hb2 q12.2 (by omega)
        rw [show mth 2 = nX12_knocksAs from rfl] at i2
        rw [e_X12_bearsAs, b_X12_bearsAs_0, if_neg (by decide), b_X12_bearsAs_5, if_neg (by decide), b_X12_bearsAs_25, if_neg (by decide), b_X12_bearsAs_44, if_pos rfl, b_X12_bearsAs_50, mr_begins _ hl1, qB_some, psh_none, b_X12_bearsAs_56, i1, qB_some, psh_some, b_X12_bearsAs_62, hb2.1, i2, qB_some, psh_some, b_X12_bearsAs_73, ← nMs_app]
        rfl
    · show qE L xs (d + n + 2 + 1) nX12_knocksAs _ _ = _
      rcases k8 hk with rfl | rfl | rfl | rfl | rfl | rfl | rfl | rfl
      · have hb1 : mOK (nM v 11) b o := mOK_nMs hb [11]
        have h3 : nM v 11 63 42 = v 63 42 + 1 := up_eq _ _ _ _
        rw [e_X12_knocksAs, b_X12_knocksAs_0, if_neg (by decide), b_X12_knocksAs_5, if_neg (by decide), b_X12_knocksAs_25, if_neg (by decide), b_X12_knocksAs_30, if_neg (by decide), b_X12_knocksAs_61, mr_begins _ hl1, qB_some, psh_none, b_X12_knocksAs_67, hb1.2]
        rfl
      · have hb1 : mOK (nM v 11) b o := mOK_nMs hb [11]
        have h3 : nM v 11 63 42 = v 63 42 + 1 := up_eq _ _ _ _
        rw [e_X12_knocksAs, b_X12_knocksAs_0, if_neg (by decide), b_X12_knocksAs_5, if_neg (by decide), b_X12_knocksAs_25, if_neg (by decide), b_X12_knocksAs_30, if_neg (by decide), b_X12_knocksAs_61, mr_begins _ hl1, qB_some, psh_none, b_X12_knocksAs_67, hb1.2]
        rfl
      · have hb1 : mOK (nM v 11) b o := mOK_nMs hb [11]
        have h3 : nM v 11 63 42 = v 63 42 + 1 := up_eq _ _ _ _
        rw [e_X12_knocksAs, b_X12_knocksAs_0, if_neg (by decide), b_X12_knocksAs_5, if_neg (by decide), b_X12_knocksAs_25, if_neg (by decide), b_X12_knocksAs_30, if_neg (by decide), b_X12_knocksAs_61, mr_begins _ hl1, qB_some, psh_none, b_X12_knocksAs_67, hb1.2]
        rfl
      · have hb1 : mOK (nM v 40) b o := mOK_nMs hb [40]
        have h3 : nM v 40 63 42 = v 63 42 + 1 := up_eq _ _ _ _
        have q1 : acE o n 2 2 = true := (Bool.and_eq_true_iff.mp (show (decide (0 ≤ (2 : Int) ∧ (2 : Int) < 8) && acE o n 2 2) = true from hE)).2
        have hl2 : v 63 42 + (((acL o n 2 2).length + 1 : Nat) : Int) ≤ 2000000 := hl.2
        have i1 := ih 2 2 x (nM v 40) (by omega) (by omega) hb1 q1 (by omega)
        rw [show mth 2 = nX12_knocksAs from rfl] at i1
        rw [e_X12_knocksAs, b_X12_knocksAs_0, if_pos rfl, b_X12_knocksAs_10, mr_begins _ hl1, qB_some, psh_none, b_X12_knocksAs_16, i1, qB_some, psh_some, b_X12_knocksAs_22]
        rfl
      · have hb1 : mOK (nM v 50) b o := mOK_nMs hb [50]
        have h3 : nM v 50 63 42 = v 63 42 + 1 := up_eq _ _ _ _
        have q12 := Bool.and_eq_true_iff.mp (Bool.and_eq_true_iff.mp (show (decide (0 ≤ (1 : Int) ∧ (1 : Int) < 8) && (acE o n 1 2 && acE o n o 0)) = true from hE)).2
        have hl2 : v 63 42 + (((acL o n 1 2 ++ acL o n o 0).length + 1 : Nat) : Int) ≤ 2000000 := hl.2
        rw [List.length_append] at hl2
        have i1 := ih 1 2 x (nM v 50) (by omega) (by omega) hb1 q12.1 (by omega)
        rw [show mth 2 = nX12_knocksAs from rfl] at i1
        have n1 := nMs_n (acL o n 1 2) (nM v 50)
        have hb2 := mOK_nMs hb1 (acL o n 1 2)
        have i2 := ih o 0 2 (nMs (nM v 50) (acL o n 1 2)) ho (by omega) hb2 q12.2 (by omega)
        rw [show mth 0 = nX12_standsAs from rfl] at i2
        rw [e_X12_knocksAs, b_X12_knocksAs_0, if_neg (by decide), b_X12_knocksAs_5, if_neg (by decide), b_X12_knocksAs_25, if_pos rfl, b_X12_knocksAs_36, mr_begins _ hl1, qB_some, psh_none, b_X12_knocksAs_42, i1, qB_some, psh_some, b_X12_knocksAs_48, hb2.1, i2, qB_some, psh_some, b_X12_knocksAs_59, ← nMs_app]
        rfl
      · have hb1 : mOK (nM v 40) b o := mOK_nMs hb [40]
        have h3 : nM v 40 63 42 = v 63 42 + 1 := up_eq _ _ _ _
        have q1 : acE o n 2 2 = true := (Bool.and_eq_true_iff.mp (show (decide (0 ≤ (2 : Int) ∧ (2 : Int) < 8) && acE o n 2 2) = true from hE)).2
        have hl2 : v 63 42 + (((acL o n 2 2).length + 1 : Nat) : Int) ≤ 2000000 := hl.2
        have i1 := ih 2 2 x (nM v 40) (by omega) (by omega) hb1 q1 (by omega)
        rw [show mth 2 = nX12_knocksAs from rfl] at i1
        rw [e_X12_knocksAs, b_X12_knocksAs_0, if_neg (by decide), b_X12_knocksAs_5, if_pos rfl, b_X12_knocksAs_10, mr_begins _ hl1, qB_some, psh_none, b_X12_knocksAs_16, i1, qB_some, psh_some, b_X12_knocksAs_22]
        rfl
      · have hb1 : mOK (nM v 11) b o := mOK_nMs hb [11]
        have h3 : nM v 11 63 42 = v 63 42 + 1 := up_eq _ _ _ _
        rw [e_X12_knocksAs, b_X12_knocksAs_0, if_neg (by decide), b_X12_knocksAs_5, if_neg (by decide), b_X12_knocksAs_25, if_neg (by decide), b_X12_knocksAs_30, if_neg (by decide), b_X12_knocksAs_61, mr_begins _ hl1, qB_some, psh_none, b_X12_knocksAs_67, hb1.2]
        rfl
      · have hb1 : mOK (nM v 50) b o := mOK_nMs hb [50]
        have h3 : nM v 50 63 42 = v 63 42 + 1 := up_eq _ _ _ _
        have q12 := Bool.and_eq_true_iff.mp (Bool.and_eq_true_iff.mp (show (decide (0 ≤ (1 : Int) ∧ (1 : Int) < 8) && (acE o n 1 2 && acE o n o 0)) = true from hE)).2
        have hl2 : v 63 42 + (((acL o n 1 2 ++ acL o n o 0).length + 1 : Nat) : Int) ≤ 2000000 := hl.2
        rw [List.length_append] at hl2
        have i1 := ih 1 2 x (nM v 50) (by omega) (by omega) hb1 q12.1 (by omega)
        rw [show mth 2 = nX12_knocksAs from rfl] at i1
        have n1 := nMs_n (acL o n 1 2) (nM v 50)
        have hb2 := mOK_nMs hb1 (acL o n 1 2)
        have i2 := ih o 0 2 (nMs (nM v 50) (acL o n 1 2)) ho (by omega) hb2 q12.2 (by omega)
        rw [show mth 0 = nX12_standsAs from rfl] at i2
        rw [e_X12_knocksAs, b_X12_knocksAs_0, if_neg (by decide), b_X12_knocksAs_5, if_neg (by decide), b_X12_knocksAs_25, if_neg (by decide), b_X12_knocksAs_30, if_pos rfl, b_X12_knocksAs_36, mr_begins _ hl1, qB_some, psh_none, b_X12_knocksAs_42, i1, qB_some, psh_some, b_X12_knocksAs_48, hb2.1, i2, qB_some, psh_some, b_X12_knocksAs_59, ← nMs_app]
        rfl
    · show qE L xs (d + n + 2 + 1) nX12_tellsAs _ _ = _
      rcases k8 hk with rfl | rfl | rfl | rfl | rfl | rfl | rfl | rfl
      · have hb1 : mOK (nM v 2) b o := mOK_nMs hb [2]
        have h3 : nM v 2 63 42 = v 63 42 + 1 := up_eq _ _ _ _
        have q12 := Bool.and_eq_true_iff.mp (show (acE o n o 1 && acE o n o 2) = true from hE)
        have hl2 : v 63 42 + (((acL o n o 1 ++ acL o n o 2).length + 1 : Nat) : Int) ≤ 2000000 := hl.2
        rw [List.length_append] at hl2
        have i1 := ih o 1 x (nM v 2) ho (by omega) hb1 q12.1 (by omega)
        rw [show mth 1 = nX12_bearsAs from rfl] at i1
        have n1 := nMs_n (acL o n o 1) (nM v 2)
        have hb2 := mOK_nMs hb1 (acL o n o 1)
        have i2 := ih o 2 1 (nMs (nM v 2) (acL o n o 1)) ho (by omega) hb2 q12.2 (by omega)
        rw [show mth 2 = nX12_knocksAs from rfl] at i2
        rw [e_X12_tellsAs, b_X12_tellsAs_0, if_neg (by decide), b_X12_tellsAs_20, if_neg (by decide), b_X12_tellsAs_41, mr_begins _ hl1, qB_some, psh_none, b_X12_tellsAs_46, hb1.1, i1, qB_some, psh_some, b_X12_tellsAs_55, hb2.1, i2, qB_some, psh_some, b_X12_tellsAs_66, ← nMs_app]
        rfl
      · have hb1 : mOK (nM v 2) b o := mOK_nMs hb [2]
        have h3 : nM v 2 63 42 = v 63 42 + 1 := up_eq _ _ _ _
        have q12 := Bool.and_eq_true_iff.mp (show (acE o n o 1 && acE o n o 2) = true from hE)
        have hl2 : v 63 42 + (((acL o n o 1 ++ acL o n o 2).length + 1 : Nat) : Int) ≤ 2000000 := hl.2
        rw [List.length_append] at hl2
        have i1 := ih o 1 x (nM v 2) ho (by omega) hb1 q12.1 (by omega)
        rw [show mth 1 = nX12_bearsAs from rfl] at i1
        have n1 := nMs_n (acL o n o 1) (nM v 2)
        have hb2 := mOK_nMs hb1 (acL o n o 1)
        have i2 := ih o 2 1 (nMs (nM v 2) (acL o n o 1)) ho (by omega) hb2 q12.2 (by omega)
        rw [show mth 2 = nX12_knocksAs from rfl] at i2
        rw [e_X12_tellsAs, b_X12_tellsAs_0, if_neg (by decide), b_X12_tellsAs_20, if_neg (by decide), b_X12_tellsAs_41, mr_begins _ hl1, qB_some, psh_none, b_X12_tellsAs_46, hb1.1, i1, qB_some, psh_some, b_X12_tellsAs_55, hb2.1, i2, qB_some, psh_some, b_X12_tellsAs_66, ← nMs_app]
        rfl
      · have hb1 : mOK (nM v 2) b o := mOK_nMs hb [2]
        have h3 : nM v 2 63 42 = v 63 42 + 1 := up_eq _ _ _ _
        have q12 := Bool.and_eq_true_iff.mp (show (acE o n o 1 && acE o n o 2) = true from hE)
        have hl2 : v 63 42 + (((acL o n o 1 ++ acL o n o 2).length + 1 : Nat) : Int) ≤ 2000000 := hl.2
        rw [List.length_append] at hl2
        have i1 := ih o 1 x (nM v 2) ho (by omega) hb1 q12.1 (by omega)
        rw [show mth 1 = nX12_bearsAs from rfl] at i1
        have n1 := nMs_n (acL o n o 1) (nM v 2)
        have hb2 := mOK_nMs hb1 (acL o n o 1)
        have i2 := ih o 2 1 (nMs (nM v 2) (acL o n o 1)) ho (by omega) hb2 q12.2 (by omega)
        rw [show mth 2 = nX12_knocksAs from rfl] at i2
        rw [e_X12_tellsAs, b_X12_tellsAs_0, if_neg (by decide), b_X12_tellsAs_20, if_neg (by decide), b_X12_tellsAs_41, mr_begins _ hl1, qB_some, psh_none, b_X12_tellsAs_46, hb1.1, i1, qB_some, psh_some, b_X12_tellsAs_55, hb2.1, i2, qB_some, psh_some, b_X12_tellsAs_66, ← nMs_app]
        rfl
      · have hb1 : mOK (nM v 2) b o := mOK_nMs hb [2]
        have h3 : nM v 2 63 42 = v 63 42 + 1 := up_eq _ _ _ _
        have q12 := Bool.and_eq_true_iff.mp (show (acE o n o 1 && acE o n o 2) = true from hE)
        have hl2 : v 63 42 + (((acL o n o 1 ++ acL o n o 2).length + 1 : Nat) : Int) ≤ 2000000 := hl.2
        rw [List.length_append] at hl2
        have i1 := ih o 1 x (nM v 2) ho (by omega) hb1 q12.1 (by omega)
        rw [show mth 1 = nX12_bearsAs from rfl] at i1
        have n1 := nMs_n (acL o n o 1) (nM v 2)
        have hb2 := mOK_nMs hb1 (acL o n o 1)
        have i2 := ih o 2 1 (nMs (nM v 2) (acL o n o 1)) ho (by omega) hb2 q12.2 (by omega)
        rw [show mth 2 = nX12_knocksAs from rfl] at i2
        rw [e_X12_tellsAs, b_X12_tellsAs_0, if_neg (by decide), b_X12_tellsAs_20, if_neg (by decide), b_X12_tellsAs_41, mr_begins _ hl1, qB_some, psh_none, b_X12_tellsAs_46, hb1.1, i1, qB_some, psh_some, b_X12_tellsAs_55, hb2.1, i2, qB_some, psh_some, b_X12_tellsAs_66, ← nMs_app]
        rfl
      · have hb1 : mOK (nM v 2) b o := mOK_nMs hb [2]
        have h3 : nM v 2 63 42 = v 63 42 + 1 := up_eq _ _ _ _
        have q12 := Bool.and_eq_true_iff.mp (show (acE o n o 1 && acE o n o 2) = true from hE)
        have hl2 : v 63 42 + (((acL o n o 1 ++ acL o n o 2).length + 1 : Nat) : Int) ≤ 2000000 := hl.2
        rw [List.length_append] at hl2
        have i1 := ih o 1 x (nM v 2) ho (by omega) hb1 q12.1 (by omega)
        rw [show mth 1 = nX12_bearsAs from rfl] at i1
        have n1 := nMs_n (acL o n o 1) (nM v 2)
        have hb2 := mOK_nMs hb1 (acL o n o 1)
        have i2 := ih o 2 1 (nMs (nM v 2) (acL o n o 1)) ho (by omega) hb2 q12.2 (by omega)
        rw [show mth 2 = nX12_knocksAs from rfl] at i2
        rw [e_X12_tellsAs, b_X12_tellsAs_0, if_neg (by decide), b_X12_tellsAs_20, if_neg (by decide), b_X12_tellsAs_41, mr_begins _ hl1, qB_some, psh_none, b_X12_tellsAs_46, hb1.1, i1, qB_some, psh_some, b_X12_tellsAs_55, hb2.1, i2, qB_some, psh_some, b_X12_tellsAs_66, ← nMs_app]
        rfl
      · have hb1 : mOK (nM v 60) b o := mOK_nMs hb [60]
        have h3 : nM v 60 63 42 = v 63 42 + 1 := up_eq _ _ _ _
        have q1 : acE o n 3 3 = true := (Bool.and_eq_true_iff.mp (show (decide (0 ≤ (3 : Int) ∧ (3 : Int) < 8) && acE o n 3 3) = true from hE)).2
        have hl2 : v 63 42 + (((acL o n 3 3).length + 1 : Nat) : Int) ≤ 2000000 := hl.2
        have i1 := ih 3 3 x (nM v 60) (by omega) (by omega) hb1 q1 (by omega)
        rw [show mth 3 = nX12_tellsAs from rfl] at i1
        rw [e_X12_tellsAs, b_X12_tellsAs_0, if_pos rfl, b_X12_tellsAs_5, mr_begins _ hl1, qB_some, psh_none, b_X12_tellsAs_11, i1, qB_some, psh_some, b_X12_tellsAs_17]
        rfl
      · have hb1 : mOK (nM v 2) b o := mOK_nMs hb [2]
        have h3 : nM v 2 63 42 = v 63 42 + 1 := up_eq _ _ _ _
        have q12 := Bool.and_eq_true_iff.mp (show (acE o n o 1 && acE o n o 2) = true from hE)
        have hl2 : v 63 42 + (((acL o n o 1 ++ acL o n o 2).length + 1 : Nat) : Int) ≤ 2000000 := hl.2
        rw [List.length_append] at hl2
        have i1 := ih o 1 x (nM v 2) ho (by omega) hb1 q12.1 (by omega)
        rw [show mth 1 = nX12_bearsAs from rfl] at i1
        have n1 := nMs_n (acL o n o 1) (nM v 2)
        have hb2 := mOK_nMs hb1 (acL o n o 1)
        have i2 := ih o 2 1 (nMs (nM v 2) (acL o n o 1)) ho (by omega) hb2 q12.2 (by omega)
        rw [show mth 2 = nX12_knocksAs from rfl] at i2
        rw [e_X12_tellsAs, b_X12_tellsAs_0, if_neg (by decide), b_X12_tellsAs_20, if_neg (by decide), b_X12_tellsAs_41, mr_begins _ hl1, qB_some, psh_none, b_X12_tellsAs_46, hb1.1, i1, qB_some, psh_some, b_X12_tellsAs_55, hb2.1, i2, qB_some, psh_some, b_X12_tellsAs_66, ← nMs_app]
        rfl
      · have hb1 : mOK (nM v 81) b o := mOK_nMs hb [81]
        have h3 : nM v 81 63 42 = v 63 42 + 1 := up_eq _ _ _ _
        have q1 : acE o n 4 3 = true := (Bool.and_eq_true_iff.mp (show (decide (0 ≤ (4 : Int) ∧ (4 : Int) < 8) && acE o n 4 3) = true from hE)).2
        have hl2 : v 63 42 + (((acL o n 4 3).length + 1 : Nat) : Int) ≤ 2000000 := hl.2
        have i1 := ih 4 3 x (nM v 81) (by omega) (by omega) hb1 q1 (by omega)
        rw [show mth 3 = nX12_tellsAs from rfl] at i1
        rw [e_X12_tellsAs, b_X12_tellsAs_0, if_neg (by decide), b_X12_tellsAs_20, if_pos rfl, b_X12_tellsAs_26, mr_begins _ hl1, qB_some, psh_none, b_X12_tellsAs_32, i1, qB_some, psh_some, b_X12_tellsAs_38]
        rfl
end OU3
end
section
/-! act keeps the relation -/
section OV3
variable {L : Nat} {xs : Nat → Int} {d : Nat} {v u w : Nat → Nat → Int}
/-- what they write down is the same -/
def trE (u w : Nat → Nat → Int) : Prop := w 63 42 = u 49 3 ∧ 0 ≤ u 49 3 ∧ ∀ i : Nat, (i : Int) < u 49 3 → i < 24 → w 85 i = u 51 i
theorem trE_n (h : trE u w) (B : Int) : trE (nC u B) (nM w B) := by
  obtain ⟨h1, h2, h3⟩ := h
  have e1 : nC u B 49 3 = u 49 3 + 1 := up_eq _ _ _ _
  have e2 : nM w B 63 42 = w 63 42 + 1 := up_eq _ _ _ _
  refine ⟨by rw [e1, e2, h1], by omega, fun i hi h24 => ?_⟩
  rw [e1] at hi
  unfold nC nM
  rw [up_ne (by omega), up_ne (by omega), h1]
  by_cases g : u 49 3 < 24
  · rw [if_pos g, if_pos g]
    by_cases q : i = (u 49 3).toNat
    · rw [q, up_eq, up_eq]
    · rw [up_ne (by omega), up_ne (by omega)]
      exact h3 i (by omega) h24
  · rw [if_neg g, if_neg g]
    exact h3 i (by omega) h24
theorem trE_ns : ∀ (l : List Int) (u w : Nat → Nat → Int), trE u w → trE (nCs u l) (nMs w l)
  | [], _, _, h => h
  | B :: l, u, w, h => trE_ns l (nC u B) (nM w B) (trE_n h B)
theorem opr_act (h : rlR v) (b t x : Int) : opR L xs v nX11_act nX12_act 0 [(0, b), (0, t), (0, x)] := by
  obtain ⟨e1, e2, e3, e4, e5, e6⟩ := h.2.2.2.2.2.2.1
  obtain ⟨u0, hu0⟩ : ∃ u0, u0 = pm_up v 49 3 0 := ⟨_, rfl⟩
  have z3 : u0 49 3 = 0 := by rw [hu0, up_eq]
  have z2 : u0 49 2 = v 49 2 := by rw [hu0, up_ne (by omega)]
  -- whatever they write down, the relation is kept
  have fin : ∀ (l : List Int) (w : Nat → Nat → Int), l.length ≤ 1000 → (∀ c j, ¬ (c = 63 ∧ (j = 42 ∨ j = 43 ∨ j = 44)) → w c j = nCs u0 l c j) → w 63 42 = 0 → rlR (nMs w l) := fun l w hl hw hz => by
    have tr0 : trE u0 w := ⟨by rw [hz, z3], by omega, fun i hi => by omega⟩
    obtain ⟨t1, t2, t3⟩ := trE_ns l u0 w tr0
    have hn := nCs_n l u0
    have k : ∀ c j, ¬ (c = 63 ∧ (j = 42 ∨ j = 43 ∨ j = 44)) → c ≠ 85 → ¬ (c = 49 ∧ j = 3) → c ≠ 51 → nMs w l c j = v c j := fun c j q1 q2 q3 q4 => by
      rw [nMs_ne (by omega) q2, hw c j q1, nCs_ne q3 q4, hu0, up_ne (by omega)]
    have a49 : nMs w l 49 3 = nCs u0 l 49 3 := by rw [nMs_ne (by omega) (by omega), hw 49 3 (by omega)]
    have a51 : ∀ i, nMs w l 51 i = nCs u0 l 51 i := fun i => by rw [nMs_ne (by omega) (by omega), hw 51 i (by omega)]
    have hB : rlB (nMs w l) := by
      refine ⟨?_, ?_, fun i hi => ?_, by rw [t1, a49], by rw [a49]; omega, fun i hi h24 => ?_⟩
      · rw [k 49 2 (by omega) (by omega) (by omega) (by omega)]
        exact e1
      · rw [k 49 2 (by omega) (by omega) (by omega) (by omega), k 63 39 (by omega) (by omega) (by omega) (by omega)]
        exact e2
      · rw [k 49 2 (by omega) (by omega) (by omega) (by omega)] at hi
        have : nMs w l 84 i = v 84 i := k 84 i (by omega) (by omega) (by omega) (by omega)
        rw [this, k 50 i (by omega) (by omega) (by omega) (by omega)]
        exact e3 i hi
      · rw [a49] at hi
        rw [a51]
        exact t3 i hi h24
    refine rlR_or h (Or.inr (fun c j q => k c j (by unfold dsW at q; omega) (by unfold dsW at q; omega) (by unfold dsW at q; omega) (by unfold dsW at q; omega))) (Or.inr (fun c j q => k c j (by unfold dsC at q; omega) (by unfold dsC at q; omega) (by unfold dsC at q; omega) (by unfold dsC at q; omega))) (Or.inr (fun c j q => k c j (by unfold dsT at q; omega) (by unfold dsT at q; omega) (by unfold dsT at q; omega) (by unfold dsT at q; omega))) (Or.inr (fun c j q => k c j (by unfold dsL at q; omega) (by unfold dsL at q; omega) (by unfold dsL at q; omega) (by unfold dsL at q; omega))) (Or.inr (fun c j q => k c j (by unfold dsD at q; omega) (by unfold dsD at q; omega) (by unfold dsD at q; omega) (by unfold dsD at q; omega))) (Or.inr (fun c j q => k c j (by unfold dsG at q; omega) (by unfold dsG at q; omega) (by unfold dsG at q; omega) (by unfold dsG at q; omega))) (Or.inl hB) (Or.inr (fun c j q => k c j (by unfold dsS at q; omega) (by unfold dsS at q; omega) (by unfold dsS at q; omega) (by unfold dsS at q; omega))) (Or.inr (fun c j q => k c j (by unfold dsN at q; omega) (by unfold dsN at q; omega) (by unfold dsN at q; omega) (by unfold dsN at q; omega)))
  have mb : ∀ w : Nat → Nat → Int, w 63 39 = v 49 2 → qE L xs 1000 nX12_act [(2, 63), (0, b), (0, t), (0, x)] (qS w) = if 0 ≤ b ∧ b < v 49 2 then qG L xs 999 CX12_act 15 [(2, 63), (0, b), (0, t), (0, x)] [] (qS (pm_up w 63 42 0)) else some (some (0, 0), qS (pm_up w 63 42 0)) := fun w hw => by
    rw [e_X12_act, b_X12_act_0, b_X12_act_5, mb_isBody _ (by rw [up_ne (by omega)]; omega) (by rw [up_ne (by omega)]; omega), up_ne (by omega), hw, qB_some, psh_some, b_X12_act_10, zb_0, b_X12_act_13]
  by_cases g : 0 ≤ b ∧ b < v 49 2
  · obtain ⟨bn, rfl⟩ : ∃ bn : Nat, b = (bn : Int) := ⟨b.toNat, by omega⟩
    obtain ⟨m1, m2⟩ := e3 bn g.2
    have z50 : u0 50 bn = v 50 bn := by rw [hu0, up_ne (by omega)]
    by_cases g2 : 0 ≤ t ∧ t < 4
    · obtain ⟨O, hO⟩ : ∃ O : Nat, v 50 bn = (O : Int) := ⟨(v 50 bn).toNat, by omega⟩
      obtain ⟨T, rfl⟩ : ∃ T : Nat, t = (T : Int) := ⟨t.toNat, by omega⟩
      have hE := acE_10 O (by omega) O (by omega) T (by omega)
      have hL := acL_10 O (by omega) O (by omega) T (by omega)
      have hb : bOK u0 (bn : Int) (O : Int) := ⟨by rw [z2]; exact g, by rw [z2]; omega, by rw [Int.toNat_natCast, z50, hO]⟩
      have r1 := cr_run (L := L) (xs := xs) (d := 972) (b := (bn : Int)) (o := (O : Int)) (by omega) 10 (O : Int) (T : Int) x 0 u0 (by omega) (by omega) (by omega) hb hE (by omega)
      obtain ⟨l, hl⟩ : ∃ l, l = acL (O : Int) 10 (O : Int) (T : Int) := ⟨_, rfl⟩
      rw [← hl] at r1 hL
      obtain ⟨w1, hw1⟩ : ∃ w1, w1 = pm_up (pm_up (pm_up (nCs u0 l) 63 42 0) 63 43 O) 63 44 bn := ⟨_, rfl⟩
      have q42 : w1 63 42 = 0 := by rw [hw1]; simp (disch := omega) only [up_ne, up_eq]
      have hmk : mOK w1 (bn : Int) (O : Int) := ⟨by rw [hw1]; simp (disch := omega) only [up_ne, up_eq], by rw [hw1]; simp (disch := omega) only [up_eq]⟩
      have r2 := mr_run (L := L) (xs := xs) (d := 987) (b := (bn : Int)) (o := (O : Int)) (by omega) 10 (O : Int) (T : Int) x w1 (by omega) (by omega) hmk hE (by rw [← hl]; omega)
      rw [← hl] at r2
      have k63 : nCs u0 l 63 39 = v 49 2 := by rw [nCs_ne (by omega) (by omega), hu0, up_ne (by omega)]; exact e2
      have k84 : pm_up (nCs u0 l) 63 42 0 84 bn = (O : Int) := by
        rw [up_ne (by omega), nCs_ne (by omega) (by omega), hu0, up_ne (by omega), m1, hO]
      refine ⟨acV (O : Int) bn 10 O T x, nCs u0 l, nMs w1 l, ?_, ?_, fin l w1 hL (fun c j q => by rw [hw1, up_ne (by omega), up_ne (by omega), up_ne (by omega)]) q42⟩
      · have ek : qE L xs 998 nX0_kindOf [(2, 49), (0, (bn : Int))] (qS u0) = some (some (0, (O : Int)), qS u0) := cr_wkind (d := 996) hb
        rw [e_X11_act, b_X11_act_0, e_X0_perform, b_X0_perform_0, ← hu0, b_X0_perform_5, cb_has _ (by rw [z2]; omega), qB_some, psh_some, b_X0_perform_10, zb_0, if_pos (by rw [z2]; exact g), b_X0_perform_13, if_neg (by omega), b_X0_perform_17, if_neg (by omega), b_X0_perform_24, ek, qB_some, psh_some, b_X0_perform_31, r1, qB_some, psh_some, b_X0_perform_37, qB_some, psh_some, b_X11_act_10]
      · have e30 : qG L xs 999 CX12_act 15 [(2, 63), (0, (bn : Int)), (0, (T : Int)), (0, x)] [] (qS (pm_up (nCs u0 l) 63 42 0)) = qG L xs 999 CX12_act 30 [(2, 63), (0, (bn : Int)), (0, (T : Int)), (0, x)] [] (qS w1) := by
          rw [b_X12_act_15, if_pos (by omega), Int.toNat_natCast, k84, b_X12_act_22, b_X12_act_25, hw1]
        rw [mb _ k63, if_pos g, e30]
        have h4 : T = 0 ∨ T = 1 ∨ T = 2 ∨ T = 3 := by omega
        rcases h4 with rfl | rfl | rfl | rfl
        · rw [b_X12_act_30_v0 (x2 := ((0 : Nat) : Int)) (h := rfl), b_X12_act_60, hmk.1, show qE L xs 999 nX12_standsAs [(2, 63), (0, (O : Int)), (0, x)] (qS w1) = _ from r2, qB_some, psh_some, b_X12_act_69]
        · rw [b_X12_act_30_v1 (x2 := ((1 : Nat) : Int)) (h := rfl), b_X12_act_70, hmk.1, show qE L xs 999 nX12_bearsAs [(2, 63), (0, (O : Int)), (0, x)] (qS w1) = _ from r2, qB_some, psh_some, b_X12_act_79]
        · rw [b_X12_act_30_v2 (x2 := ((2 : Nat) : Int)) (h := rfl), b_X12_act_80, hmk.1, show qE L xs 999 nX12_knocksAs [(2, 63), (0, (O : Int)), (0, x)] (qS w1) = _ from r2, qB_some, psh_some, b_X12_act_89]
        · rw [b_X12_act_30_v3 (x2 := ((3 : Nat) : Int)) (h := rfl), b_X12_act_90, hmk.1, show qE L xs 999 nX12_tellsAs [(2, 63), (0, (O : Int)), (0, x)] (qS w1) = _ from r2, qB_some, psh_some, b_X12_act_99]
    · obtain ⟨w1, hw1⟩ : ∃ w1, w1 = pm_up (pm_up (pm_up u0 63 42 0) 63 43 (v 84 bn)) 63 44 bn := ⟨_, rfl⟩
      have q42 : w1 63 42 = 0 := by rw [hw1]; simp (disch := omega) only [up_ne, up_eq]
      refine ⟨0, u0, w1, ?_, ?_, fin [] w1 (by show 0 ≤ 1000; omega) (fun c j q => by rw [hw1, up_ne (by omega), up_ne (by omega), up_ne (by omega)]; rfl) q42⟩
      · rw [e_X11_act, b_X11_act_0, e_X0_perform, b_X0_perform_0, ← hu0, b_X0_perform_5, cb_has _ (by rw [z2]; omega), qB_some, psh_some, b_X0_perform_10, zb_0, if_pos (by rw [z2]; exact g), b_X0_perform_13]
        by_cases g3 : t < 0
        · rw [if_pos g3, b_X0_perform_22, qB_some, psh_some, b_X11_act_10]
        · rw [if_neg g3, b_X0_perform_17, if_pos (by omega), b_X0_perform_22, qB_some, psh_some, b_X11_act_10]
      · have k84 : pm_up u0 63 42 0 84 bn = v 84 bn := by rw [up_ne (by omega), hu0, up_ne (by omega)]
        rw [mb u0 (by rw [hu0, up_ne (by omega)]; exact e2), if_pos g, b_X12_act_15, if_pos (by omega), Int.toNat_natCast, k84, b_X12_act_22, b_X12_act_25, ← hw1, b_X12_act_30_o (h := by omega), b_X12_act_100]
  · obtain ⟨w1, hw1⟩ : ∃ w1, w1 = pm_up u0 63 42 0 := ⟨_, rfl⟩
    have q42 : w1 63 42 = 0 := by rw [hw1]; simp (disch := omega) only [up_ne, up_eq]
    refine ⟨0, u0, w1, ?_, ?_, fin [] w1 (by show 0 ≤ 1000; omega) (fun c j q => by rw [hw1, up_ne (by omega)]; rfl) q42⟩
    · rw [e_X11_act, b_X11_act_0, e_X0_perform, b_X0_perform_0, ← hu0, b_X0_perform_5, cb_has _ (by rw [z2]; omega), qB_some, psh_some, b_X0_perform_10, zb_0, if_neg (by rw [z2]; exact g), b_X0_perform_22, qB_some, psh_some, b_X11_act_10]
    · rw [mb u0 (by rw [hu0, up_ne (by omega)]; exact e2), if_neg g, hw1]
end OV3
end
section
/-! THE LAW, plainly: what is read, what it is worth -/
section OW3
variable {b : Nat → Int} {e : Nat} {nm : Nat → Int}
/-- two joined by a sign -/
def jn (c a w : Int) : Int := if c = 124 then (if a ≠ 0 ∨ w ≠ 0 then 1 else 0) else if c = 38 then (if a ≠ 0 ∧ w ≠ 0 then 1 else 0) else if c = 60 then (if a < w then 1 else 0) else if c = 61 then (if a = w then 1 else 0) else if c = 62 then (if w < a then 1 else 0) else if c = 43 then w32 (a + w) else if c = 45 then w32 (a - w) else if c = 42 then w32 (a * w) else if c = 47 then (if w = 0 then 0 else w32 (Int.tdiv a w)) else (if w = 0 then 0 else Int.tmod a w)
/-- the worth of what is read from k on (a: what stands ahead of a loop) -/
def vP (b : Nat → Int) (e : Nat) (nm : Nat → Int) : Nat → Nat → Nat → Nat → Int → Int → Int
  | 0, _, _, _, _, a => a
  | n + 1, m, o, k, f, a =>
    if m < 5 then vP b e nm n (10 + m) o (txP b e n (m + 1) o k f).2.1 (txP b e n (m + 1) o k f).2.2 (vP b e nm n (m + 1) o k f 0)
    else if m = 5 then
      (if f < 0 then
        (if k < e then
          (if 0 ≤ nmI (b k) then nm (nmI (b k)).toNat
          else if dgt (b k) then (rdNum b e 4 0 k).1
          else if o < 6 ∧ b k = 40 then
            (if (txP b e n 0 (o + 1) (k + 1) f).2.2 < 0 ∧ (txP b e n 0 (o + 1) (k + 1) f).2.1 < e ∧ b (txP b e n 0 (o + 1) (k + 1) f).2.1 = 41 then vP b e nm n 0 (o + 1) (k + 1) f 0 else 0)
          else if o < 6 ∧ (b k = 33 ∨ b k = 45) then (if b k = 45 then w32 (-(vP b e nm n 5 (o + 1) (k + 1) f 0)) else if vP b e nm n 5 (o + 1) (k + 1) f 0 = 0 then 1 else 0)
          else 0)
        else 0)
      else 0)
    else
      (if f < 0 ∧ k < e ∧ sgn (m - 10) (b k) then
        (if m = 12 then jn (b k) a (vP b e nm n (m - 10 + 1) o (k + 1) f 0)
        else vP b e nm n m o (txP b e n (m - 10 + 1) o (k + 1) f).2.1 (txP b e n (m - 10 + 1) o (k + 1) f).2.2 (jn (b k) a (vP b e nm n (m - 10 + 1) o (k + 1) f 0)))
      else a)
theorem rd_le : ∀ (n : Nat) (z : Int) (k : Nat), k ≤ e → k ≤ (rdNum b e n z k).2 ∧ (rdNum b e n z k).2 ≤ e
  | 0, z, k, h => ⟨Nat.le_refl _, h⟩
  | n + 1, z, k, h => by
    unfold rdNum
    by_cases g : k < e ∧ dgt (b k)
    · rw [if_pos g]
      have := rd_le n (z * 10 + b k - 48) (k + 1) (by omega)
      omega
    · rw [if_neg g]
      exact ⟨Nat.le_refl _, h⟩
theorem rd_lt (k : Nat) (h : k < e) (g : dgt (b k)) : k < (rdNum b e 4 0 k).2 ∧ (rdNum b e 4 0 k).2 ≤ e := by
  have : rdNum b e 4 0 k = rdNum b e 3 (0 * 10 + b k - 48) (k + 1) := if_pos ⟨h, g⟩
  rw [this]
  have := rd_le (b := b) (e := e) 3 (0 * 10 + b k - 48) (k + 1) (by omega)
  omega
theorem rd_v : ∀ (n : Nat) (z : Int) (k : Nat), 0 ≤ z → z < 10 ^ (4 - n) → n ≤ 4 → 0 ≤ (rdNum b e n z k).1 ∧ (rdNum b e n z k).1 < 10000
  | 0, z, k, h1, h2, h3 => ⟨h1, h2⟩
  | n + 1, z, k, h1, h2, h3 => by
    unfold rdNum
    by_cases g : k < e ∧ dgt (b k)
    · rw [if_pos g]
      have p : (10 : Int) ^ (4 - n) = 10 * 10 ^ (4 - (n + 1)) := by
        rw [show 4 - n = (4 - (n + 1)) + 1 by omega, Int.pow_succ, Int.mul_comm]
      have d := g.2
      unfold dgt at d
      refine rd_v n (z * 10 + b k - 48) (k + 1) (by omega) ?_ (by omega)
      rw [p]
      omega
    · rw [if_neg g]
      have p : (10 : Int) ^ (4 - (n + 1)) ≤ 10 ^ 4 := by
        have : n = 0 ∨ n = 1 ∨ n = 2 ∨ n = 3 := by omega
        rcases this with rfl | rfl | rfl | rfl <;> decide
      exact ⟨h1, by omega⟩
/-- once a fault is found nothing more is read -/
theorem txP_f : ∀ (n m o k : Nat) (f : Int), 0 ≤ f → txP b e n m o k f = ([], k, f)
  | 0, _, _, _, _, _ => rfl
  | n + 1, m, o, k, f, hf => by
    unfold txP
    by_cases g : m < 5
    · rw [if_pos g, txP_f n (m + 1) o k f hf]
      show ([] ++ (txP b e n (10 + m) o k f).1, (txP b e n (10 + m) o k f).2) = _
      rw [txP_f n (10 + m) o k f hf]
      rfl
    · rw [if_neg g]
      by_cases g5 : m = 5
      · rw [if_pos g5, if_neg (by omega)]
      · rw [if_neg g5, if_neg (by omega)]
/-- what is read goes on, ends at the end, and no more is written than read -/
theorem txP_le : ∀ (n m o k : Nat) (f : Int), k ≤ e → k ≤ (txP b e n m o k f).2.1 ∧ (txP b e n m o k f).2.1 ≤ e ∧ (txP b e n m o k f).1.length + k ≤ (txP b e n m o k f).2.1 ∧ ((txP b e n m o k f).2.2 = f ∨ (0 ≤ (txP b e n m o k f).2.2 ∧ (txP b e n m o k f).2.2 ≤ e))
  | 0, _, _, k, _, h => ⟨Nat.le_refl _, h, Nat.le_of_eq (Nat.zero_add k), Or.inl rfl⟩
  | n + 1, m, o, k, f, h => by
    unfold txP
    by_cases g : m < 5
    · rw [if_pos g]
      have a := txP_le n (m + 1) o k f h
      have c := txP_le n (10 + m) o (txP b e n (m + 1) o k f).2.1 (txP b e n (m + 1) o k f).2.2 a.2.1
      dsimp only
      rw [List.length_append]
      omega
    · rw [if_neg g]
      by_cases g5 : m = 5
      · rw [if_pos g5]
        by_cases hf : f < 0
        · rw [if_pos hf]
          by_cases hk : k < e
          · rw [if_pos hk]
            by_cases q1 : 0 ≤ nmI (b k)
            · rw [if_pos q1]
              dsimp only
              simp only [List.length_cons, List.length_nil]
              exact ⟨by omega, by omega, by omega, Or.inl (by trivial)⟩
            · rw [if_neg q1]
              by_cases q2 : dgt (b k)
              · have r := rd_lt (b := b) (e := e) k hk q2
                rw [if_pos q2]
                dsimp only
                simp only [List.length_cons, List.length_nil]
                exact ⟨by omega, by omega, by omega, Or.inl (by trivial)⟩
              · rw [if_neg q2]
                by_cases q3 : o < 6 ∧ b k = 40
                · have a := txP_le n 0 (o + 1) (k + 1) f (by omega)
                  rw [if_pos q3]
                  by_cases q4 : (txP b e n 0 (o + 1) (k + 1) f).2.2 < 0 ∧ (txP b e n 0 (o + 1) (k + 1) f).2.1 < e ∧ b (txP b e n 0 (o + 1) (k + 1) f).2.1 = 41
                  · rw [if_pos q4]
                    dsimp only
                    omega
                  · rw [if_neg q4]
                    dsimp only
                    by_cases q5 : (txP b e n 0 (o + 1) (k + 1) f).2.2 < 0
                    · rw [if_pos q5]
                      omega
                    · rw [if_neg q5]
                      omega
                · rw [if_neg q3]
                  by_cases q4 : o < 6 ∧ (b k = 33 ∨ b k = 45)
                  · have a := txP_le n 5 (o + 1) (k + 1) f (by omega)
                    rw [if_pos q4]
                    dsimp only
                    rw [List.length_append]
                    simp only [List.length_cons, List.length_nil]
                    omega
                  · rw [if_neg q4]
                    dsimp only
                    simp only [List.length_nil]
                    omega
          · rw [if_neg hk]
            dsimp only
            simp only [List.length_nil]
            omega
        · rw [if_neg hf]
          exact ⟨Nat.le_refl _, h, Nat.le_of_eq (Nat.zero_add k), Or.inl rfl⟩
      · rw [if_neg g5]
        by_cases q : f < 0 ∧ k < e ∧ sgn (m - 10) (b k)
        · have a := txP_le n (m - 10 + 1) o (k + 1) f (by omega)
          rw [if_pos q]
          by_cases q2 : m = 12
          · rw [if_pos q2]
            dsimp only
            rw [List.length_append]
            simp only [List.length_cons, List.length_nil]
            omega
          · have c := txP_le n m o (txP b e n (m - 10 + 1) o (k + 1) f).2.1 (txP b e n (m - 10 + 1) o (k + 1) f).2.2 a.2.1
            rw [if_neg q2]
            dsimp only
            rw [List.length_append]
            simp only [List.length_cons]
            omega
        · rw [if_neg q]
          exact ⟨Nat.le_refl _, h, Nat.le_of_eq (Nat.zero_add k), Or.inl rfl⟩
end OW3
end
section
/-! THE LAW, plainly: the code, worked out, is worth what is read -/
section OX3
variable {b : Nat → Int} {e : Nat} {nm : Nat → Int}
def exS (nm : Nat → Int) (s : Int) (st : List Int) : List Int :=
  if 0 ≤ s then s :: st else if -6 ≤ s then nm (-1 - s).toNat :: st else if s = -126 then w32 (-(st.headD 0)) :: st.tail else if s = -33 then (if st.headD 0 = 0 then 1 else 0) :: st.tail else jn (-s) (st.tail.headD 0) (st.headD 0) :: st.tail.tail
def exL (nm : Nat → Int) (l : List Int) (st : List Int) : List Int := l.foldl (fun st s => exS nm s st) st
theorem exL_app (l m st : List Int) : exL nm (l ++ m) st = exL nm m (exL nm l st) := List.foldl_append
theorem exL_cons (s : Int) (l st : List Int) : exL nm (s :: l) st = exL nm l (exS nm s st) := rfl
theorem exS_op {l : Nat} {c a w : Int} {st : List Int} (h : sgn l c) : exS nm (-c) (w :: a :: st) = jn c a w :: st := by
  unfold sgn at h
  unfold exS
  rw [if_neg (by omega), if_neg (by omega), if_neg (by omega), if_neg (by omega), Int.neg_neg]
  rfl
theorem nmI_r (x : Int) : nmI x = -1 ∨ (0 ≤ nmI x ∧ nmI x ≤ 5) := by
  unfold nmI
  split
  · omega
  · split
    · omega
    · split
      · omega
      · split
        · omega
        · split
          · omega
          · split <;> omega
def rkT (m : Nat) : Nat := if m < 5 then 2 * (6 - m) else if m = 5 then 2 else 2 * (16 - m) - 1
theorem exP (he : e ≤ 120) : ∀ (n m o k : Nat) (f a : Int) (st : List Int), k ≤ e → (m ≤ 5 ∨ (10 ≤ m ∧ m ≤ 14)) → 20 * (120 - k) + rkT m < n → (txP b e n m o k f).2.2 < 0 → exL nm (txP b e n m o k f).1 (if 10 ≤ m then a :: st else st) = vP b e nm n m o k f a :: st
  | 0, m, o, k, f, a, st, hk, hm, hn, hf => absurd hn (by omega)
  | n + 1, m, o, k, f, a, st, hk, hm, hn, hf => by
    have f0 : f < 0 := by
      refine Int.not_le.mp (fun q => ?_)
      rw [txP_f (n + 1) m o k f q] at hf
      exact absurd hf (by dsimp only; omega)
    unfold rkT at hn
    by_cases g : m < 5
    · rw [if_pos g] at hn
      have tx : txP b e (n + 1) m o k f = ((txP b e n (m + 1) o k f).1 ++ (txP b e n (10 + m) o (txP b e n (m + 1) o k f).2.1 (txP b e n (m + 1) o k f).2.2).1, (txP b e n (10 + m) o (txP b e n (m + 1) o k f).2.1 (txP b e n (m + 1) o k f).2.2).2) := if_pos g
      have vx : vP b e nm (n + 1) m o k f a = vP b e nm n (10 + m) o (txP b e n (m + 1) o k f).2.1 (txP b e n (m + 1) o k f).2.2 (vP b e nm n (m + 1) o k f 0) := if_pos g
      have l1 := txP_le (b := b) (e := e) n (m + 1) o k f hk
      rw [tx] at hf
      have hf1 : (txP b e n (m + 1) o k f).2.2 < 0 := by
        refine Int.not_le.mp (fun q => ?_)
        rw [txP_f n (10 + m) o _ _ q] at hf
        exact absurd hf (by dsimp only; omega)
      have rk0 : 20 * (120 - k) + rkT (m + 1) < n := by
        unfold rkT
        by_cases q : m + 1 < 5
        · rw [if_pos q]
          omega
        · rw [if_neg q, if_pos (by omega)]
          omega
      have i1 := exP he n (m + 1) o k f 0 st hk (by omega) rk0 hf1
      have i2 := exP he n (10 + m) o _ _ (vP b e nm n (m + 1) o k f 0) st l1.2.1 (by omega) (by unfold rkT; rw [if_neg (by omega), if_neg (by omega)]; omega) hf
      rw [if_neg (by omega)] at i1
      rw [if_pos (by omega)] at i2
      rw [tx, vx, if_neg (by omega)]
      dsimp only
      rw [exL_app, i1, i2]
    · rw [if_neg g] at hn
      by_cases g5 : m = 5
      · subst g5
        rw [if_pos rfl] at hn
        have tx : txP b e (n + 1) 5 o k f = (if f < 0 then
        (if k < e then
          (if 0 ≤ nmI (b k) then ([-1 - nmI (b k)], k + 1, f)
          else if dgt (b k) then ([(rdNum b e 4 0 k).1], (rdNum b e 4 0 k).2, f)
          else if o < 6 ∧ b k = 40 then
            (if (txP b e n 0 (o + 1) (k + 1) f).2.2 < 0 ∧ (txP b e n 0 (o + 1) (k + 1) f).2.1 < e ∧ b (txP b e n 0 (o + 1) (k + 1) f).2.1 = 41 then ((txP b e n 0 (o + 1) (k + 1) f).1, (txP b e n 0 (o + 1) (k + 1) f).2.1 + 1, (txP b e n 0 (o + 1) (k + 1) f).2.2)
            else ((txP b e n 0 (o + 1) (k + 1) f).1, (txP b e n 0 (o + 1) (k + 1) f).2.1, if (txP b e n 0 (o + 1) (k + 1) f).2.2 < 0 then ((txP b e n 0 (o + 1) (k + 1) f).2.1 : Int) else (txP b e n 0 (o + 1) (k + 1) f).2.2))
          else if o < 6 ∧ (b k = 33 ∨ b k = 45) then ((txP b e n 5 (o + 1) (k + 1) f).1 ++ [if b k = 45 then -126 else -33], (txP b e n 5 (o + 1) (k + 1) f).2)
          else ([], k, (k : Int)))
        else ([], k, (k : Int)))
      else ([], k, f)) := rfl
        have vx : vP b e nm (n + 1) 5 o k f a = (if f < 0 then
        (if k < e then
          (if 0 ≤ nmI (b k) then nm (nmI (b k)).toNat
          else if dgt (b k) then (rdNum b e 4 0 k).1
          else if o < 6 ∧ b k = 40 then
            (if (txP b e n 0 (o + 1) (k + 1) f).2.2 < 0 ∧ (txP b e n 0 (o + 1) (k + 1) f).2.1 < e ∧ b (txP b e n 0 (o + 1) (k + 1) f).2.1 = 41 then vP b e nm n 0 (o + 1) (k + 1) f 0 else 0)
          else if o < 6 ∧ (b k = 33 ∨ b k = 45) then (if b k = 45 then w32 (-(vP b e nm n 5 (o + 1) (k + 1) f 0)) else if vP b e nm n 5 (o + 1) (k + 1) f 0 = 0 then 1 else 0)
          else 0)
        else 0)
      else 0) := rfl
        rw [if_pos f0] at tx vx
        rw [if_neg (by omega)]
        by_cases hk2 : k < e
        · rw [if_pos hk2] at tx vx
          have nr := nmI_r (b k)
          by_cases q1 : 0 ≤ nmI (b k)
          · rw [if_pos q1] at tx vx
            rw [tx, vx]
            show exS nm (-1 - nmI (b k)) st = _
            unfold exS
            rw [if_neg (by omega), if_pos (by omega), show -1 - (-1 - nmI (b k)) = nmI (b k) by omega]
          · rw [if_neg q1] at tx vx
            by_cases q2 : dgt (b k)
            · rw [if_pos q2] at tx vx
              have rv := rd_v (b := b) (e := e) 4 0 k (by omega) (by decide) (by omega)
              rw [tx, vx]
              show exS nm (rdNum b e 4 0 k).1 st = _
              unfold exS
              rw [if_pos rv.1]
            · rw [if_neg q2] at tx vx
              by_cases q3 : o < 6 ∧ b k = 40
              · rw [if_pos q3] at tx vx
                by_cases q4 : (txP b e n 0 (o + 1) (k + 1) f).2.2 < 0 ∧ (txP b e n 0 (o + 1) (k + 1) f).2.1 < e ∧ b (txP b e n 0 (o + 1) (k + 1) f).2.1 = 41
                · rw [if_pos q4] at tx vx
                  have i1 := exP he n 0 (o + 1) (k + 1) f 0 st (by omega) (by omega) (by unfold rkT; rw [if_pos (by omega)]; omega) q4.1
                  rw [if_neg (by omega)] at i1
                  rw [tx, vx]
                  exact i1
                · rw [if_neg q4] at tx
                  rw [tx] at hf
                  dsimp only at hf
                  split at hf
                  · omega
                  · omega
              · rw [if_neg q3] at tx vx
                by_cases q4 : o < 6 ∧ (b k = 33 ∨ b k = 45)
                · rw [if_pos q4] at tx vx
                  rw [tx] at hf
                  have i1 := exP he n 5 (o + 1) (k + 1) f 0 st (by omega) (by omega) (by unfold rkT; rw [if_neg (by omega), if_pos rfl]; omega) hf
                  rw [if_neg (by omega)] at i1
                  rw [tx, vx]
                  dsimp only
                  rw [exL_app, i1]
                  by_cases q5 : b k = 45
                  · rw [if_pos q5, if_pos q5]
                    rfl
                  · rw [if_neg q5, if_neg q5]
                    rfl
                · rw [if_neg q4] at tx
                  rw [tx] at hf
                  dsimp only at hf
                  omega
        · rw [if_neg hk2] at tx
          rw [tx] at hf
          dsimp only at hf
          omega
      · rw [if_neg g5] at hn
        have hm2 : 10 ≤ m ∧ m ≤ 14 := by omega
        have tx : txP b e (n + 1) m o k f = (if f < 0 ∧ k < e ∧ sgn (m - 10) (b k) then
        (if m = 12 then ((txP b e n (m - 10 + 1) o (k + 1) f).1 ++ [-(b k)], (txP b e n (m - 10 + 1) o (k + 1) f).2)
        else ((txP b e n (m - 10 + 1) o (k + 1) f).1 ++ -(b k) :: (txP b e n m o (txP b e n (m - 10 + 1) o (k + 1) f).2.1 (txP b e n (m - 10 + 1) o (k + 1) f).2.2).1, (txP b e n m o (txP b e n (m - 10 + 1) o (k + 1) f).2.1 (txP b e n (m - 10 + 1) o (k + 1) f).2.2).2))
      else ([], k, f)) := (if_neg g).trans (if_neg g5)
        have vx : vP b e nm (n + 1) m o k f a = (if f < 0 ∧ k < e ∧ sgn (m - 10) (b k) then
        (if m = 12 then jn (b k) a (vP b e nm n (m - 10 + 1) o (k + 1) f 0)
        else vP b e nm n m o (txP b e n (m - 10 + 1) o (k + 1) f).2.1 (txP b e n (m - 10 + 1) o (k + 1) f).2.2 (jn (b k) a (vP b e nm n (m - 10 + 1) o (k + 1) f 0)))
      else a) := (if_neg g).trans (if_neg g5)
        rw [if_pos hm2.1]
        by_cases q : f < 0 ∧ k < e ∧ sgn (m - 10) (b k)
        · rw [if_pos q] at tx vx
          have l1 := txP_le (b := b) (e := e) n (m - 10 + 1) o (k + 1) f (by omega)
          have rk1 : 20 * (120 - (k + 1)) + rkT (m - 10 + 1) < n := by
            unfold rkT
            split
            · omega
            · split <;> omega
          by_cases q2 : m = 12
          · rw [if_pos q2] at tx vx
            rw [tx] at hf
            have i1 := exP he n (m - 10 + 1) o (k + 1) f 0 (a :: st) (by omega) (by omega) rk1 hf
            rw [if_neg (by omega)] at i1
            rw [tx, vx]
            dsimp only
            rw [exL_app, i1]
            exact exS_op q.2.2
          · rw [if_neg q2] at tx vx
            rw [tx] at hf
            dsimp only at hf
            have hf1 : (txP b e n (m - 10 + 1) o (k + 1) f).2.2 < 0 := by
              refine Int.not_le.mp (fun q => ?_)
              rw [txP_f n m o _ _ q] at hf
              exact absurd hf (by dsimp only; omega)
            have i1 := exP he n (m - 10 + 1) o (k + 1) f 0 (a :: st) (by omega) (by omega) rk1 hf1
            have i2 := exP he n m o _ _ (jn (b k) a (vP b e nm n (m - 10 + 1) o (k + 1) f 0)) st l1.2.1 (by omega) (by unfold rkT; rw [if_neg (by omega), if_neg (by omega)]; omega) hf
            rw [if_neg (by omega)] at i1
            rw [if_pos hm2.1] at i2
            rw [tx, vx]
            dsimp only
            rw [exL_app, i1, exL_cons, exS_op q.2.2, i2]
        · rw [if_neg q] at tx vx
          rw [tx, vx]
          rfl
end OX3
end
