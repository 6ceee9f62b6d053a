/-! DRAWN: both answer, and alike -/
section DS
variable {L : Nat} {xs : Nat → Int} {d : Nat} {v : Nat → Nat → Int} {c : Nat → Nat → Nat → Int} {P : Nat}
def zN (z : Int) : Int := w32 (w32 (z * 1103515245) + 12345)
/-- where it is next -/
def nxF (F : Nat → Nat → Int) (P p : Nat) (z : Int) : Nat := if 0 < onF (F p) P 0 then kthF (F p) P 0 (Int.tmod (pm_ush z 8) (onF (F p) P 0)) else p
/-- place and draw behind i steps -/
def wkF (F : Nat → Nat → Int) (P a : Nat) (z : Int) : Nat → Nat × Int
  | 0 => (a, z)
  | i + 1 => (nxF F P (wkF F P a z i).1 (zN (wkF F P a z i).2), zN (wkF F P a z i).2)
/-- places that it was in, ahead of the i-th step -/
def wvF (F : Nat → Nat → Int) (P a : Nat) (z : Int) : Nat → Nat → Int
  | 0 => fun _ => 0
  | i + 1 => fun q => if q = (wkF F P a z i).1 then 1 else wvF F P a z i q
theorem wvF_01 (F : Nat → Nat → Int) (P a : Nat) (z : Int) : ∀ i q, wvF F P a z i q = 0 ∨ wvF F P a z i q = 1
  | 0, q => Or.inl rfl
  | i + 1, q => by
    show (if q = (wkF F P a z i).1 then (1 : Int) else wvF F P a z i q) = 0 ∨ (if q = (wkF F P a z i).1 then (1 : Int) else wvF F P a z i q) = 1
    by_cases h : q = (wkF F P a z i).1
    · rw [if_pos h]; exact Or.inr rfl
    · rw [if_neg h]; exact wvF_01 F P a z i q
theorem tm_in {x m : Int} (h : 0 ≤ x) (hm : 0 < m) : 0 ≤ Int.tmod x m ∧ Int.tmod x m < m := by
  rw [tm_pos m h]
  exact ⟨Int.emod_nonneg x (by omega), Int.emod_lt_of_pos x hm⟩
theorem nxF_in {T : Nat → Nat → Int → Prop} {F : Nat → Nat → Int} (hF : isF T P F) {p : Nat} (z : Int) (hp : p < P) : nxF F P p z < P := by
  unfold nxF
  by_cases h : 0 < onF (F p) P 0
  · have ht := tm_in (ush8 z) h
    rw [if_pos h]
    have := kthF_in (f := F p) P 0 _ (fun q _ hq => (hF p q hp (by omega)).1) ht.1 ht.2
    omega
  · rw [if_neg h]; exact hp
theorem wkF_in {T : Nat → Nat → Int → Prop} {F : Nat → Nat → Int} (hF : isF T P F) {a : Nat} (z : Int) (ha : a < P) : ∀ i, (wkF F P a z i).1 < P
  | 0 => ha
  | i + 1 => nxF_in hF _ (wkF_in hF z ha i)
theorem lp_walk {S a : Nat} {F : Nat → Nat → Int} {N : Nat} (x1 x2 : Int) {z : Int} (h : WOK v S P) (hF : isF (EC v S (-1)) P F) (ha : a < P) (hN : N ≤ 200) : ∀ (n i : Nat) (w : Nat → Nat → Int) (u7 : pm_V), i + n = N → (∀ c, c ≠ 36 → c ≠ 37 → w c = v c) → (∀ q, q < P → w 37 q = wvF F P a z i q) → ∃ w' w7, qG L xs (d + 2) CX10_walk 17 [(2, 29), (0, x1), (0, x2), (0, (N : Int)), (0, ((wkF F P a z i).1 : Int)), (0, (wkF F P a z i).2), (0, (i : Int)), u7] [] (qS w) = qG L xs (d + 2) CX10_walk 89 [(2, 29), (0, x1), (0, x2), (0, (N : Int)), (0, ((wkF F P a z N).1 : Int)), (0, (wkF F P a z N).2), (0, (N : Int)), w7] [] (qS w') ∧ (∀ c, c ≠ 36 → c ≠ 37 → w' c = v c) ∧ ∀ q, q < P → w' 37 q = wvF F P a z N q
  | 0, i, w, u7, hi, hw, hv => by
    have e : i = N := by omega
    subst e
    refine ⟨w, u7, ?_, hw, hv⟩
    rw [b_X10_walk_17, if_neg (by omega)]
  | n + 1, i, w, u7, hi, hw, hv => by
    have hP := h.2.2.2.1
    have hp := wkF_in hF z ha i
    have eN : wkF F P a z (i + 1) = (nxF F P (wkF F P a z i).1 (zN (wkF F P a z i).2), zN (wkF F P a z i).2) := rfl
    have eV : wvF F P a z (i + 1) = fun q => if q = (wkF F P a z i).1 then 1 else wvF F P a z i q := rfl
    generalize hpq : (wkF F P a z i).1 = p at hp eN eV ⊢
    generalize hzq : (wkF F P a z i).2 = y at eN ⊢
    have hW : ∀ w' : Nat → Nat → Int, (∀ c, c ≠ 36 → c ≠ 37 → w' c = v c) → WOK w' S P ∧ EC w' S (-1) = EC v S (-1) := fun w' hw' => by
      constructor
      · unfold WOK
        rw [hw' 29 (by decide) (by decide), hw' 30 (by decide) (by decide), hw' 31 (by decide) (by decide), hw' 32 (by decide) (by decide)]
        exact h
      · unfold EC
        rw [hw' 30 (by decide) (by decide), hw' 31 (by decide) (by decide), hw' 32 (by decide) (by decide), hw' 33 (by decide) (by decide)]
    have hu : ∀ c, c ≠ 36 → c ≠ 37 → pm_up w 37 p 1 c = v c := fun c h1 h2 => (up_cell h2).trans (hw c h1 h2)
    obtain ⟨w1, e1, e2, e3⟩ := c_lookAhead (L := L) (xs := xs) (d := d) (v := pm_up w 37 p 1) (F := F) (p := p) (hW _ hu).1 (by rw [(hW _ hu).2]; exact hF) hp
    have hu1 : ∀ c, c ≠ 36 → c ≠ 37 → w1 c = v c := fun c h1 h2 => (e2 c h1).trans (hu c h1 h2)
    have h37 : ∀ q, q < P → w1 37 q = wvF F P a z (i + 1) q := fun q hq => by
      rw [e2 37 (by decide), up_fn, eV]
      dsimp only
      rw [hv q hq]
    obtain ⟨w', w7, e4, e5⟩ := lp_walk x1 x2 (z := z) h hF ha hN n (i + 1) w1 (0, onF (F p) P 0) (by omega) hu1 h37
    refine ⟨w', w7, ?_, e5⟩
    rw [eN] at e4
    refine Eq.trans ?_ e4
    dsimp only
    rw [b_X10_walk_17, if_pos (by omega), b_X10_walk_23, c_isThere (hW _ hw).1, qB_some, psh_some, b_X10_walk_29, zb_0, if_pos (by omega), b_X10_walk_32, if_pos (by omega), Int.toNat_natCast, b_X10_walk_40, e1, qB_some, psh_some, b_X10_walk_57]
    show (if 0 < onF (F p) P 0 then qG L xs (d + 2) CX10_walk 64 [(2, 29), (0, x1), (0, x2), (0, (N : Int)), (0, (p : Int)), (0, zN y), (0, (i : Int)), (0, onF (F p) P 0)] [] (qS w1) else qG L xs (d + 2) CX10_walk 79 [(2, 29), (0, x1), (0, x2), (0, (N : Int)), (0, (p : Int)), (0, zN y), (0, (i : Int)), (0, onF (F p) P 0)] [] (qS w1)) = _
    unfold nxF
    by_cases g : 0 < onF (F p) P 0
    · have ht := tm_in (ush8 (zN y)) g
      rw [if_pos g, if_pos g, b_X10_walk_64, if_neg (by omega), b_X10_walk_73, c_aheadAt (hW _ hu1).1.2.2.1 hP e3 (fun q hq => (hF p q hp hq).1) ht.1 ht.2, qB_some, psh_some, b_X10_walk_76, b_X10_walk_81, w32_id (by omega) (by omega)]
      rfl
    · rw [if_neg g, if_neg g, b_X10_walk_79, b_X10_walk_81, w32_id (by omega) (by omega)]
      rfl
theorem c_walk {S a : Nat} {F : Nat → Nat → Int} {N : Nat} {z : Int} (h : WOK v S P) (hF : isF (EC v S (-1)) P F) (ha : a < P) (hN : N ≤ 200) : ∃ w, qE L xs (d + 3) nX10_walk [(2, 29), (0, (a : Int)), (0, z), (0, (N : Int))] (qS v) = some (some (0, ((wkF F P a z N).1 : Int)), qS w) ∧ (∀ c, c ≠ 36 → c ≠ 37 → w c = v c) ∧ ∀ q, q < P → w 37 q = wvF F P a z (N + 1) q := by
  have hP := h.2.2.2.1
  have hp := wkF_in hF z ha N
  have hu : ∀ c, c ≠ 36 → c ≠ 37 → pm_fl v 37 0 60 0 c = v c := fun c h1 h2 => by
    funext i
    exact if_neg (fun q => h2 q.1)
  have r1 : qE L xs (d + 2) nJ7_fill_53178 [(2, 37), (0, 0)] (qS v) = some (none, qS (pm_fl v 37 0 60 0)) := q_fill (c := 37) (by decide) rfl (by decide) (nr_of rfl)
  have hW : ∀ w' : Nat → Nat → Int, (∀ c, c ≠ 36 → c ≠ 37 → w' c = v c) → WOK w' S P := fun w' hw' => by
    unfold WOK
    rw [hw' 29 (by decide) (by decide), hw' 30 (by decide) (by decide), hw' 31 (by decide) (by decide), hw' 32 (by decide) (by decide)]
    exact h
  obtain ⟨w, w7, e1, e2, e3⟩ := lp_walk (L := L) (xs := xs) (d := d) (z := z) (F := F) (a : Int) z h hF ha hN N 0 (pm_fl v 37 0 60 0) (9, 0) (by omega) hu (fun q hq => if_pos (by omega))
  refine ⟨pm_up w 37 (wkF F P a z N).1 1, ?_, fun c h1 h2 => (up_cell h2).trans (e2 c h1 h2), fun q hq => ?_⟩
  · rw [e_X10_walk, b_X10_walk_0, r1, qB_some, psh_none, b_X10_walk_8]
    refine Eq.trans e1 ?_
    rw [b_X10_walk_89, c_isThere (hW _ e2), qB_some, psh_some, b_X10_walk_95, zb_0, if_pos (by omega), b_X10_walk_98, if_pos (by omega), Int.toNat_natCast, b_X10_walk_106]
  · rw [up_fn]
    show (if q = (wkF F P a z N).1 then (1 : Int) else w 37 q) = if q = (wkF F P a z N).1 then 1 else wvF F P a z N q
    rw [e3 q hq]
theorem lp_cwalk {f : Nat → Int} (h9 : v 29 9 = (P : Int)) (hP : P ≤ 60) (hf : ∀ q, q < P → v 37 q = f q) (h01 : ∀ q, f q = 0 ∨ f q = 1) : ∀ (n j : Nat) (x t : Int), j + n = P → 0 ≤ x → x + onF f n j = t → t ≤ 1000 → qG L xs d CX10_countWalked 4 [(2, 29), (0, x), (0, (j : Int))] [] (qS v) = some (some (0, t), qS v)
  | 0, j, x, t, hj, hx, ht, ht2 => by
    unfold onF at ht
    rw [b_X10_countWalked_4, if_neg (by omega), b_X10_countWalked_27, show x = t by omega]
  | n + 1, j, x, t, hj, hx, ht, ht2 => by
    unfold onF at ht
    have h1 := h01 j
    have h2 := onF_in (f := f) n (j + 1) (fun q _ _ => h01 q)
    have ih := lp_cwalk h9 hP hf h01 n (j + 1) (x + f j) t (by omega) (by omega) (by omega) ht2
    refine Eq.trans ?_ ih
    rw [b_X10_countWalked_4, if_pos (by omega), b_X10_countWalked_12, if_pos (by omega), Int.toNat_natCast, hf j (by omega), b_X10_countWalked_19, w32_id (by omega) (by omega), w32_id (by omega) (by omega)]
    rfl
theorem c_countWalked {f : Nat → Int} (h9 : v 29 9 = (P : Int)) (hP : P ≤ 60) (hf : ∀ q, q < P → v 37 q = f q) (h01 : ∀ q, f q = 0 ∨ f q = 1) : qE L xs (d + 1) nX10_countWalked [(2, 29)] (qS v) = some (some (0, onF f P 0), qS v) := by
  have h2 := onF_in (f := f) P 0 (fun q _ _ => h01 q)
  rw [e_X10_countWalked, b_X10_countWalked_0]
  exact lp_cwalk h9 hP hf h01 P 0 0 _ (by omega) (by omega) (by omega) (by omega)
end DS
