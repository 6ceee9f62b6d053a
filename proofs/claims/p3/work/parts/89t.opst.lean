/-! ACT in general: the bodies that run (written by wip/p1/89t.opst.py) -/
section OT3
variable {L : Nat} {xs : Nat → Int} {d : Nat} {v u w : Nat → Nat → Int}
/-- the KIND's own body of the ACT; the next KIND from k on that has one -/
def bdy (k act : Int) : Int := pm_lof [1, 10, 11, 2, 20, 0, 0, 0, 0, 30, 0, 0, 0, 41, 40, 0, 0, 0, 50, 0, 0, 0, 0, 60, 70, 0, 0, 0, 0, 80, 0, 81] (4 * k + act).toNat
def fdF : Nat → Int → Int → Int
  | 0, k, _ => k
  | n + 1, k, act => if bdy k act = 0 then fdF n (kaI k) act else k
theorem bdy_0 : ∀ k, k < 8 → ∀ t, t < 4 → bdy ((k : Nat) : Int) ((t : Nat) : Int) = 0 → 0 ≤ kaI (k : Int) ∧ kaI (k : Int) < 8 := by decide +kernel
theorem fdF_in : ∀ k, k < 8 → ∀ t, t < 4 → (0 ≤ fdF 8 ((k : Nat) : Int) ((t : Nat) : Int) ∧ fdF 8 ((k : Nat) : Int) ((t : Nat) : Int) < 8) := by decide +kernel
abbrev isB (z : Int) : Prop := z = 1 ∨ z = 2 ∨ z = 10 ∨ z = 11 ∨ z = 20 ∨ z = 30 ∨ z = 40 ∨ z = 41 ∨ z = 50 ∨ z = 60 ∨ z = 70 ∨ z = 80 ∨ z = 81
theorem fdF_B : ∀ k, k < 8 → ∀ t, t < 4 → isB (bdy (fdF 8 ((k : Nat) : Int) ((t : Nat) : Int)) ((t : Nat) : Int)) := by decide +kernel
/-- the value of a body, by those it runs -/
def acW (own b : Int) (f : Int → Int → Int → Int) (B a x : Int) : Int :=
  if B = 1 then w32 (x + b) else if B = 2 then w32 (f own 1 x - f own 2 1) else if B = 10 then w32 (f own 0 x * 2) else if B = 11 then pm_xor x b else if B = 20 then w32 (f a 0 x + 3) else if B = 30 then w32 (-(f a 1 x)) else if B = 40 then w32 (f a 2 x * 3) else if B = 41 then f a 1 (w32 (x + 1)) else if B = 50 then w32 (f a 2 x - f own 0 2) else if B = 60 then pm_xor (f a 3 x) 5 else if B = 70 then w32 (f a 0 x * 2) else if B = 80 then w32 (f a 1 x + f own 2 2) else w32 (f a 3 x - 1)
def acV (own b : Int) : Nat → Int → Int → Int → Int
  | 0, _, _, _ => 0
  | n + 1, k, t, x => acW own b (acV own b n) (bdy (fdF 8 k t) t) (kaI (fdF 8 k t)) x
/-- the bodies that it runs, itself ahead -/
def acX (own : Int) (f : Int → Int → List Int) (B a : Int) : List Int :=
  B :: (if B = 1 ∨ B = 11 then [] else if B = 2 then f own 1 ++ f own 2 else if B = 10 then f own 0 else if B = 20 ∨ B = 70 then f a 0 else if B = 30 ∨ B = 41 then f a 1 else if B = 40 then f a 2 else if B = 50 then f a 2 ++ f own 0 else if B = 80 then f a 1 ++ f own 2 else f a 3)
def acL (own : Int) : Nat → Int → Int → List Int
  | 0, _, _ => []
  | n + 1, k, t => acX own (acL own n) (bdy (fdF 8 k t) t) (kaI (fdF 8 k t))
/-- so deep is enough -/
def acZ (own : Int) (f : Int → Int → Bool) (B a : Int) : Bool :=
  if B = 1 ∨ B = 11 then true else if B = 2 then f own 1 && f own 2 else if B = 10 then f own 0 else decide (0 ≤ a ∧ a < 8) && (if B = 20 ∨ B = 70 then f a 0 else if B = 30 ∨ B = 41 then f a 1 else if B = 40 then f a 2 else if B = 50 then f a 2 && f own 0 else if B = 80 then f a 1 && f own 2 else f a 3)
def acE (own : Int) : Nat → Int → Int → Bool
  | 0, _, _ => false
  | n + 1, k, t => acZ own (acE own n) (bdy (fdF 8 k t) t) (kaI (fdF 8 k t))
theorem acE_10 : ∀ o, o < 8 → ∀ k, k < 8 → ∀ t, t < 4 → acE ((o : Nat) : Int) 10 ((k : Nat) : Int) ((t : Nat) : Int) = true := by decide +kernel
theorem acL_10 : ∀ o, o < 8 → ∀ k, k < 8 → ∀ t, t < 4 → (acL ((o : Nat) : Int) 10 ((k : Nat) : Int) ((t : Nat) : Int)).length ≤ 1000 := by decide +kernel
/-- a body written down -/
def nC (u : Nat → Nat → Int) (B : Int) : Nat → Nat → Int := pm_up (if u 49 3 < 24 then pm_up u 51 (u 49 3).toNat B else u) 49 3 (u 49 3 + 1)
def nM (u : Nat → Nat → Int) (B : Int) : Nat → Nat → Int := pm_up (if u 63 42 < 24 then pm_up u 85 (u 63 42).toNat B else u) 63 42 (u 63 42 + 1)
def nCs (u : Nat → Nat → Int) (l : List Int) : Nat → Nat → Int := l.foldl nC u
def nMs (u : Nat → Nat → Int) (l : List Int) : Nat → Nat → Int := l.foldl nM u
theorem nC_ne {B : Int} {c j : Nat} (h1 : ¬ (c = 49 ∧ j = 3)) (h2 : c ≠ 51) : nC u B c j = u c j := by
  unfold nC
  rw [up_ne (by omega)]
  by_cases g : u 49 3 < 24
  · rw [if_pos g, up_ne (by omega)]
  · rw [if_neg g]
theorem nM_ne {B : Int} {c j : Nat} (h1 : ¬ (c = 63 ∧ j = 42)) (h2 : c ≠ 85) : nM u B c j = u c j := by
  unfold nM
  rw [up_ne (by omega)]
  by_cases g : u 63 42 < 24
  · rw [if_pos g, up_ne (by omega)]
  · rw [if_neg g]
theorem nCs_ne {c j : Nat} (h1 : ¬ (c = 49 ∧ j = 3)) (h2 : c ≠ 51) : ∀ (l : List Int) (u : Nat → Nat → Int), nCs u l c j = u c j
  | [], _ => rfl
  | B :: l, u => (nCs_ne h1 h2 l (nC u B)).trans (nC_ne h1 h2)
theorem nMs_ne {c j : Nat} (h1 : ¬ (c = 63 ∧ j = 42)) (h2 : c ≠ 85) : ∀ (l : List Int) (u : Nat → Nat → Int), nMs u l c j = u c j
  | [], _ => rfl
  | B :: l, u => (nMs_ne h1 h2 l (nM u B)).trans (nM_ne h1 h2)
theorem nCs_n : ∀ (l : List Int) (u : Nat → Nat → Int), nCs u l 49 3 = u 49 3 + l.length
  | [], u => by
    show u 49 3 = u 49 3 + ((0 : Nat) : Int)
    omega
  | B :: l, u => by
    have := nCs_n l (nC u B)
    have e : nC u B 49 3 = u 49 3 + 1 := up_eq _ _ _ _
    show nCs (nC u B) l 49 3 = u 49 3 + ((l.length + 1 : Nat) : Int)
    omega
theorem nMs_n : ∀ (l : List Int) (u : Nat → Nat → Int), nMs u l 63 42 = u 63 42 + l.length
  | [], u => by
    show u 63 42 = u 63 42 + ((0 : Nat) : Int)
    omega
  | B :: l, u => by
    have := nMs_n l (nM u B)
    have e : nM u B 63 42 = u 63 42 + 1 := up_eq _ _ _ _
    show nMs (nM u B) l 63 42 = u 63 42 + ((l.length + 1 : Nat) : Int)
    omega
theorem nCs_app (u : Nat → Nat → Int) (l m : List Int) : nCs u (l ++ m) = nCs (nCs u l) m := List.foldl_append
theorem nMs_app (u : Nat → Nat → Int) (l m : List Int) : nMs u (l ++ m) = nMs (nMs u l) m := List.foldl_append
theorem cr_wnote (B : Int) (h : 0 ≤ u 49 3 ∧ u 49 3 < 2147483647) : qE L xs (d + 1) nX0_note [(2, 49), (0, B)] (qS u) = some (none, qS (nC u B)) := by
  rw [e_X0_note, b_X0_note_0]
  unfold nC
  by_cases g : u 49 3 < 24
  · rw [if_pos g, if_pos g, b_X0_note_9, if_pos ⟨h.1, g⟩, b_X0_note_19, up_ne (by omega), w32_id (by omega) (by omega), b_X0_note_29]
  · rw [if_neg g, if_neg g, b_X0_note_19, w32_id (by omega) (by omega), b_X0_note_29]
theorem mr_begins (B : Int) (h : 0 ≤ u 63 42 ∧ u 63 42 < 2147483647) : qE L xs (d + 1) nX12_begins [(2, 63), (0, B)] (qS u) = some (none, qS (nM u B)) := by
  rw [e_X12_begins, b_X12_begins_0]
  unfold nM
  by_cases g : u 63 42 < 24
  · rw [if_pos g, if_pos g, b_X12_begins_9, if_pos ⟨h.1, g⟩, b_X12_begins_19, up_ne (by omega), w32_id (by omega) (by omega), b_X12_begins_29]
  · rw [if_neg g, if_neg g, b_X12_begins_19, w32_id (by omega) (by omega), b_X12_begins_29]
/-- the KIND that has the body -/
theorem lpr_fd (x1 x2 x4 x5 : Int) (t : Nat) (ht : t < 4) : ∀ (n j k : Nat), j + n = 8 → k < 8 → ∃ z : Int, qG L xs (d + 2) CX0_run 6 [(2, 49), (0, x1), (0, x2), (0, (t : Int)), (0, x4), (0, x5), (0, (k : Int)), (0, (j : Int))] [] (qS u) = qG L xs (d + 2) CX0_run 49 [(2, 49), (0, x1), (0, x2), (0, (t : Int)), (0, x4), (0, x5), (0, fdF n (k : Int) (t : Int)), (0, z)] [] (qS u)
  | 0, j, k, hj, hk => by
    refine ⟨(j : Int), ?_⟩
    rw [b_X0_run_6, if_neg (by omega)]
    rfl
  | n + 1, j, k, hj, hk => by
    have e : pm_lof [1, 10, 11, 2, 20, 0, 0, 0, 0, 30, 0, 0, 0, 41, 40, 0, 0, 0, 50, 0, 0, 0, 0, 60, 70, 0, 0, 0, 0, 80, 0, 81] (4 * (k : Int) + (t : Int)).toNat = bdy (k : Int) (t : Int) := rfl
    rw [b_X0_run_6, if_pos (by omega), b_X0_run_15, cb_hasKind, qB_some, psh_some, b_X0_run_20, zb_0, if_pos (by omega), b_X0_run_23, w32_id (z := 4 * (k : Int)) (by omega) (by omega), w32_id (by omega) (by omega), if_pos (by omega), e, b_X0_run_33]
    unfold fdF
    by_cases g : bdy (k : Int) (t : Int) = 0
    · have a := bdy_0 k hk t ht g
      obtain ⟨k', hk'⟩ : ∃ k' : Nat, kaI (k : Int) = (k' : Int) := ⟨(kaI (k : Int)).toNat, by omega⟩
      obtain ⟨z, ih⟩ := lpr_fd x1 x2 x4 x5 t ht n (j + 1) k' (by omega) (by omega)
      rw [show ((j + 1 : Nat) : Int) = (j : Int) + 1 by omega] at ih
      refine ⟨z, ?_⟩
      rw [if_pos g, if_pos g, b_X0_run_36, cr_kindAbove _ (by omega), qB_some, psh_some, b_X0_run_41, w32_id (by omega) (by omega), hk']
      exact ih
    · refine ⟨(j : Int), ?_⟩
      rw [if_neg g, if_neg g]
end OT3
