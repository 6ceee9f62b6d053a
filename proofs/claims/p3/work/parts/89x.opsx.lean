/-! THE LAW, plainly: the code, worked out, is worth what is read -/
section OX3
variable {b : Nat → Int} {e : Nat} {nm : Nat → Int}
def exS (nm : Nat → Int) (s : Int) (st : List Int) : List Int :=
  if 0 ≤ s then s :: st else if -6 ≤ s then nm (-1 - s).toNat :: st else if s = -126 then w32 (-(st.headD 0)) :: st.tail else if s = -33 then (if st.headD 0 = 0 then 1 else 0) :: st.tail else jn (-s) (st.tail.headD 0) (st.headD 0) :: st.tail.tail
def exL (nm : Nat → Int) (l : List Int) (st : List Int) : List Int := l.foldl (fun st s => exS nm s st) st
theorem exL_app (l m st : List Int) : exL nm (l ++ m) st = exL nm m (exL nm l st) := List.foldl_append
theorem exL_cons (s : Int) (l st : List Int) : exL nm (s :: l) st = exL nm l (exS nm s st) := rfl
theorem exS_op {l : Nat} {c a w : Int} {st : List Int} (h : sgn l c) : exS nm (-c) (w :: a :: st) = jn c a w :: st := by
  unfold sgn at h
  unfold exS
  rw [if_neg (by omega), if_neg (by omega), if_neg (by omega), if_neg (by omega), Int.neg_neg]
  rfl
theorem nmI_r (x : Int) : nmI x = -1 ∨ (0 ≤ nmI x ∧ nmI x ≤ 5) := by
  unfold nmI
  split
  · omega
  · split
    · omega
    · split
      · omega
      · split
        · omega
        · split
          · omega
          · split <;> omega
def rkT (m : Nat) : Nat := if m < 5 then 2 * (6 - m) else if m = 5 then 2 else 2 * (16 - m) - 1
theorem exP (he : e ≤ 120) : ∀ (n m o k : Nat) (f a : Int) (st : List Int), k ≤ e → (m ≤ 5 ∨ (10 ≤ m ∧ m ≤ 14)) → 20 * (120 - k) + rkT m < n → (txP b e n m o k f).2.2 < 0 → exL nm (txP b e n m o k f).1 (if 10 ≤ m then a :: st else st) = vP b e nm n m o k f a :: st
  | 0, m, o, k, f, a, st, hk, hm, hn, hf => absurd hn (by omega)
  | n + 1, m, o, k, f, a, st, hk, hm, hn, hf => by
    have f0 : f < 0 := by
      refine Int.not_le.mp (fun q => ?_)
      rw [txP_f (n + 1) m o k f q] at hf
      exact absurd hf (by dsimp only; omega)
    unfold rkT at hn
    by_cases g : m < 5
    · rw [if_pos g] at hn
      have tx : txP b e (n + 1) m o k f = ((txP b e n (m + 1) o k f).1 ++ (txP b e n (10 + m) o (txP b e n (m + 1) o k f).2.1 (txP b e n (m + 1) o k f).2.2).1, (txP b e n (10 + m) o (txP b e n (m + 1) o k f).2.1 (txP b e n (m + 1) o k f).2.2).2) := if_pos g
      have vx : vP b e nm (n + 1) m o k f a = vP b e nm n (10 + m) o (txP b e n (m + 1) o k f).2.1 (txP b e n (m + 1) o k f).2.2 (vP b e nm n (m + 1) o k f 0) := if_pos g
      have l1 := txP_le (b := b) (e := e) n (m + 1) o k f hk
      rw [tx] at hf
      have hf1 : (txP b e n (m + 1) o k f).2.2 < 0 := by
        refine Int.not_le.mp (fun q => ?_)
        rw [txP_f n (10 + m) o _ _ q] at hf
        exact absurd hf (by dsimp only; omega)
      have rk0 : 20 * (120 - k) + rkT (m + 1) < n := by
        unfold rkT
        by_cases q : m + 1 < 5
        · rw [if_pos q]
          omega
        · rw [if_neg q, if_pos (by omega)]
          omega
      have i1 := exP he n (m + 1) o k f 0 st hk (by omega) rk0 hf1
      have i2 := exP he n (10 + m) o _ _ (vP b e nm n (m + 1) o k f 0) st l1.2.1 (by omega) (by unfold rkT; rw [if_neg (by omega), if_neg (by omega)]; omega) hf
      rw [if_neg (by omega)] at i1
      rw [if_pos (by omega)] at i2
      rw [tx, vx, if_neg (by omega)]
      dsimp only
      rw [exL_app, i1, i2]
    · rw [if_neg g] at hn
      by_cases g5 : m = 5
      · subst g5
        rw [if_pos rfl] at hn
        have tx : txP b e (n + 1) 5 o k f = (if f < 0 then
        (if k < e then
          (if 0 ≤ nmI (b k) then ([-1 - nmI (b k)], k + 1, f)
          else if dgt (b k) then ([(rdNum b e 4 0 k).1], (rdNum b e 4 0 k).2, f)
          else if o < 6 ∧ b k = 40 then
            (if (txP b e n 0 (o + 1) (k + 1) f).2.2 < 0 ∧ (txP b e n 0 (o + 1) (k + 1) f).2.1 < e ∧ b (txP b e n 0 (o + 1) (k + 1) f).2.1 = 41 then ((txP b e n 0 (o + 1) (k + 1) f).1, (txP b e n 0 (o + 1) (k + 1) f).2.1 + 1, (txP b e n 0 (o + 1) (k + 1) f).2.2)
            else ((txP b e n 0 (o + 1) (k + 1) f).1, (txP b e n 0 (o + 1) (k + 1) f).2.1, if (txP b e n 0 (o + 1) (k + 1) f).2.2 < 0 then ((txP b e n 0 (o + 1) (k + 1) f).2.1 : Int) else (txP b e n 0 (o + 1) (k + 1) f).2.2))
          else if o < 6 ∧ (b k = 33 ∨ b k = 45) then ((txP b e n 5 (o + 1) (k + 1) f).1 ++ [if b k = 45 then -126 else -33], (txP b e n 5 (o + 1) (k + 1) f).2)
          else ([], k, (k : Int)))
        else ([], k, (k : Int)))
      else ([], k, f)) := rfl
        have vx : vP b e nm (n + 1) 5 o k f a = (if f < 0 then
        (if k < e then
          (if 0 ≤ nmI (b k) then nm (nmI (b k)).toNat
          else if dgt (b k) then (rdNum b e 4 0 k).1
          else if o < 6 ∧ b k = 40 then
            (if (txP b e n 0 (o + 1) (k + 1) f).2.2 < 0 ∧ (txP b e n 0 (o + 1) (k + 1) f).2.1 < e ∧ b (txP b e n 0 (o + 1) (k + 1) f).2.1 = 41 then vP b e nm n 0 (o + 1) (k + 1) f 0 else 0)
          else if o < 6 ∧ (b k = 33 ∨ b k = 45) then (if b k = 45 then w32 (-(vP b e nm n 5 (o + 1) (k + 1) f 0)) else if vP b e nm n 5 (o + 1) (k + 1) f 0 = 0 then 1 else 0)
          else 0)
        else 0)
      else 0) := rfl
        rw [if_pos f0] at tx vx
        rw [if_neg (by omega)]
        by_cases hk2 : k < e
        · rw [if_pos hk2] at tx vx
          have nr := nmI_r (b k)
          by_cases q1 : 0 ≤ nmI (b k)
          · rw [if_pos q1] at tx vx
            rw [tx, vx]
            show exS nm (-1 - nmI (b k)) st = _
            unfold exS
            rw [if_neg (by omega), if_pos (by omega), show -1 - (-1 - nmI (b k)) = nmI (b k) by omega]
          · rw [if_neg q1] at tx vx
            by_cases q2 : dgt (b k)
            · rw [if_pos q2] at tx vx
              have rv := rd_v (b := b) (e := e) 4 0 k (by omega) (by decide) (by omega)
              rw [tx, vx]
              show exS nm (rdNum b e 4 0 k).1 st = _
              unfold exS
              rw [if_pos rv.1]
            · rw [if_neg q2] at tx vx
              by_cases q3 : o < 6 ∧ b k = 40
              · rw [if_pos q3] at tx vx
                by_cases q4 : (txP b e n 0 (o + 1) (k + 1) f).2.2 < 0 ∧ (txP b e n 0 (o + 1) (k + 1) f).2.1 < e ∧ b (txP b e n 0 (o + 1) (k + 1) f).2.1 = 41
                · rw [if_pos q4] at tx vx
                  have i1 := exP he n 0 (o + 1) (k + 1) f 0 st (by omega) (by omega) (by unfold rkT; rw [if_pos (by omega)]; omega) q4.1
                  rw [if_neg (by omega)] at i1
                  rw [tx, vx]
                  exact i1
                · rw [if_neg q4] at tx
                  rw [tx] at hf
                  dsimp only at hf
                  split at hf
                  · omega
                  · omega
              · rw [if_neg q3] at tx vx
                by_cases q4 : o < 6 ∧ (b k = 33 ∨ b k = 45)
                · rw [if_pos q4] at tx vx
                  rw [tx] at hf
                  have i1 := exP he n 5 (o + 1) (k + 1) f 0 st (by omega) (by omega) (by unfold rkT; rw [if_neg (by omega), if_pos rfl]; omega) hf
                  rw [if_neg (by omega)] at i1
                  rw [tx, vx]
                  dsimp only
                  rw [exL_app, i1]
                  by_cases q5 : b k = 45
                  · rw [if_pos q5, if_pos q5]
                    rfl
                  · rw [if_neg q5, if_neg q5]
                    rfl
                · rw [if_neg q4] at tx
                  rw [tx] at hf
                  dsimp only at hf
                  omega
        · rw [if_neg hk2] at tx
          rw [tx] at hf
          dsimp only at hf
          omega
      · rw [if_neg g5] at hn
        have hm2 : 10 ≤ m ∧ m ≤ 14 := by omega
        have tx : txP b e (n + 1) m o k f = (if f < 0 ∧ k < e ∧ sgn (m - 10) (b k) then
        (if m = 12 then ((txP b e n (m - 10 + 1) o (k + 1) f).1 ++ [-(b k)], (txP b e n (m - 10 + 1) o (k + 1) f).2)
        else ((txP b e n (m - 10 + 1) o (k + 1) f).1 ++ -(b k) :: (txP b e n m o (txP b e n (m - 10 + 1) o (k + 1) f).2.1 (txP b e n (m - 10 + 1) o (k + 1) f).2.2).1, (txP b e n m o (txP b e n (m - 10 + 1) o (k + 1) f).2.1 (txP b e n (m - 10 + 1) o (k + 1) f).2.2).2))
      else ([], k, f)) := (if_neg g).trans (if_neg g5)
        have vx : vP b e nm (n + 1) m o k f a = (if f < 0 ∧ k < e ∧ sgn (m - 10) (b k) then
        (if m = 12 then jn (b k) a (vP b e nm n (m - 10 + 1) o (k + 1) f 0)
        else vP b e nm n m o (txP b e n (m - 10 + 1) o (k + 1) f).2.1 (txP b e n (m - 10 + 1) o (k + 1) f).2.2 (jn (b k) a (vP b e nm n (m - 10 + 1) o (k + 1) f 0)))
      else a) := (if_neg g).trans (if_neg g5)
        rw [if_pos hm2.1]
        by_cases q : f < 0 ∧ k < e ∧ sgn (m - 10) (b k)
        · rw [if_pos q] at tx vx
          have l1 := txP_le (b := b) (e := e) n (m - 10 + 1) o (k + 1) f (by omega)
          have rk1 : 20 * (120 - (k + 1)) + rkT (m - 10 + 1) < n := by
            unfold rkT
            split
            · omega
            · split <;> omega
          by_cases q2 : m = 12
          · rw [if_pos q2] at tx vx
            rw [tx] at hf
            have i1 := exP he n (m - 10 + 1) o (k + 1) f 0 (a :: st) (by omega) (by omega) rk1 hf
            rw [if_neg (by omega)] at i1
            rw [tx, vx]
            dsimp only
            rw [exL_app, i1]
            exact exS_op q.2.2
          · rw [if_neg q2] at tx vx
            rw [tx] at hf
            dsimp only at hf
            have hf1 : (txP b e n (m - 10 + 1) o (k + 1) f).2.2 < 0 := by
              refine Int.not_le.mp (fun q => ?_)
              rw [txP_f n m o _ _ q] at hf
              exact absurd hf (by dsimp only; omega)
            have i1 := exP he n (m - 10 + 1) o (k + 1) f 0 (a :: st) (by omega) (by omega) rk1 hf1
            have i2 := exP he n m o _ _ (jn (b k) a (vP b e nm n (m - 10 + 1) o (k + 1) f 0)) st l1.2.1 (by omega) (by unfold rkT; rw [if_neg (by omega), if_neg (by omega)]; omega) hf
            rw [if_neg (by omega)] at i1
            rw [if_pos hm2.1] at i2
            rw [tx, vx]
            dsimp only
            rw [exL_app, i1, exL_cons, exS_op q.2.2, i2]
        · rw [if_neg q] at tx vx
          rw [tx, vx]
          rfl
end OX3
