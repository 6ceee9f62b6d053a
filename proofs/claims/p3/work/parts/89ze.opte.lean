/-! THE LAW as the reference reads it: operands; all of it -/
section OTE
variable {L : Nat} {xs : Nat → Int} {d : Nat} {v : Nat → Nat → Int} {b : Nat → Int} {e : Nat} {nm : Nat → Int}
theorem tx_op {n o k : Nat} {f : Int} (f0 : f < 0) : txP b e (n + 1) 5 o k f = (if k < e then
          (if 0 ≤ nmI (b k) then ([-1 - nmI (b k)], k + 1, f)
          else if dgt (b k) then ([(rdNum b e 4 0 k).1], (rdNum b e 4 0 k).2, f)
          else if o < 6 ∧ b k = 40 then
            (if (txP b e n 0 (o + 1) (k + 1) f).2.2 < 0 ∧ (txP b e n 0 (o + 1) (k + 1) f).2.1 < e ∧ b (txP b e n 0 (o + 1) (k + 1) f).2.1 = 41 then ((txP b e n 0 (o + 1) (k + 1) f).1, (txP b e n 0 (o + 1) (k + 1) f).2.1 + 1, (txP b e n 0 (o + 1) (k + 1) f).2.2)
            else ((txP b e n 0 (o + 1) (k + 1) f).1, (txP b e n 0 (o + 1) (k + 1) f).2.1, if (txP b e n 0 (o + 1) (k + 1) f).2.2 < 0 then ((txP b e n 0 (o + 1) (k + 1) f).2.1 : Int) else (txP b e n 0 (o + 1) (k + 1) f).2.2))
          else if o < 6 ∧ (b k = 33 ∨ b k = 45) then ((txP b e n 5 (o + 1) (k + 1) f).1 ++ [if b k = 45 then -126 else -33], (txP b e n 5 (o + 1) (k + 1) f).2)
          else ([], k, (k : Int)))
        else ([], k, (k : Int))) := by
  have : txP b e (n + 1) 5 o k f = if f < 0 then _ else _ := rfl
  rw [this, if_pos f0]
theorem vp_op {n o k : Nat} {f a : Int} (f0 : f < 0) : vP b e nm (n + 1) 5 o k f a = (if k < e then
          (if 0 ≤ nmI (b k) then nm (nmI (b k)).toNat
          else if dgt (b k) then (rdNum b e 4 0 k).1
          else if o < 6 ∧ b k = 40 then
            (if (txP b e n 0 (o + 1) (k + 1) f).2.2 < 0 ∧ (txP b e n 0 (o + 1) (k + 1) f).2.1 < e ∧ b (txP b e n 0 (o + 1) (k + 1) f).2.1 = 41 then vP b e nm n 0 (o + 1) (k + 1) f 0 else 0)
          else if o < 6 ∧ (b k = 33 ∨ b k = 45) then (if b k = 45 then w32 (-(vP b e nm n 5 (o + 1) (k + 1) f 0)) else if vP b e nm n 5 (o + 1) (k + 1) f 0 = 0 then 1 else 0)
          else 0)
        else 0) := by
  have : vP b e nm (n + 1) 5 o k f a = if f < 0 then _ else _ := rfl
  rw [this, if_pos f0]
theorem nm_no {x : Int} (h : x = 33 ∨ x = 45 ∨ x = 40 ∨ x = 0 ∨ (48 ≤ x ∧ x ≤ 57)) : nmI x = -1 := by
  unfold nmI
  rw [if_neg (by omega), if_neg (by omega), if_neg (by omega), if_neg (by omega), if_neg (by omega), if_neg (by omega)]
theorem nm_yes {x : Int} (h : 0 ≤ nmI x) : x ≠ 33 ∧ x ≠ 45 ∧ x ≠ 40 := by
  refine ⟨fun q => ?_, fun q => ?_, fun q => ?_⟩
  · rw [nm_no (Or.inl q)] at h
    omega
  · rw [nm_no (Or.inr (Or.inl q))] at h
    omega
  · rw [nm_no (Or.inr (Or.inr (Or.inl q)))] at h
    omega
theorem dp_5 (d o : Nat) : dpR d o 5 = d + 6 * (6 - o) + 4 := by
  unfold dpR
  omega
theorem rd_operand (h : rdB v b e) (hn6 : ∀ i, i < 6 → v 73 i = nm i) {n o k : Nat} {f : Int} (hA : ∀ d, rdA L xs d v b e nm n) (ho : o ≤ 6) (hk : k ≤ e) (hf : f < 0) (hn : 20 * (120 - k) + 2 < n + 1) : ∃ o' : Int, ((txP b e (n + 1) 5 o k f).2.2 < 0 → o' = o) ∧ qE L xs (dpR d o 5) nX12_one [(2, 63)] (qS (rdS v k f o)) = some (some (0, vP b e nm (n + 1) 5 o k f 0), qS (rdS v (txP b e (n + 1) 5 o k f).2.1 (txP b e (n + 1) 5 o k f).2.2 o')) := by
  have he := h.2.1
  have wk : w32 ((k : Int) + 1) = (k : Int) + 1 := w32_id (by omega) (by omega)
  obtain ⟨D, hD⟩ : ∃ D, dpR d o 5 = D + 4 := ⟨d + 6 * (6 - o), dp_5 d o⟩
  have by1 : ∀ o0 : Int, qE L xs (D + 3) nX12_byteAt [(2, 63)] (qS (rdS v (k : Int) f o0)) = some (some (0, byt b e k), qS (rdS v (k : Int) f o0)) := fun o0 => mr_byteAt h
  have st : qE L xs (dpR d o 5) nX12_one [(2, 63)] (qS (rdS v k f o)) = if byt b e k = 33 then qG L xs (D + 3) CX12_one 32 [(2, 63), (0, byt b e k), (9, 0), (9, 0), (9, 0)] [] (qS (rdS v k f o)) else if byt b e k = 45 then qG L xs (D + 3) CX12_one 32 [(2, 63), (0, byt b e k), (9, 0), (9, 0), (9, 0)] [] (qS (rdS v k f o)) else if byt b e k = 40 then qG L xs (D + 3) CX12_one 32 [(2, 63), (0, byt b e k), (9, 0), (9, 0), (9, 0)] [] (qS (rdS v k f o)) else qG L xs (D + 3) CX12_one 145 [(2, 63), (0, byt b e k), (9, 0), (9, 0), (9, 0)] [] (qS (rdS v k f o)) := by
    rw [hD, e_X12_one, b_X12_one_0, rd_18, if_pos hf, b_X12_one_9, by1, qB_some, psh_some, b_X12_one_13, b_X12_one_20, b_X12_one_26]
  -- neither a name nor a number nor a sign
  have bad : ∀ c : Int, nmI c = -1 → ((rdNum b e 4 0 k).2 = k ∧ (rdNum b e 4 0 k).1 = 0) → qG L xs (D + 3) CX12_one 145 [(2, 63), (0, c), (9, 0), (9, 0), (9, 0)] [] (qS (rdS v k f o)) = some (some (0, 0), qS (rdS v k (k : Int) o)) := fun c hc hr => by
    obtain ⟨c0, c1, c2, c3⟩ := mr_digits (L := L) (xs := xs) (d := D + 2) (f := f) (o := (o : Int)) h c (-1) 4 k 0 (by omega) hk (by omega) (by decide)
    have c0z : c0 = 0 := c1.mpr hr.1
    rw [hr.1, hr.2, c0z] at c3
    rw [b_X12_one_145, show D + 3 = (D + 2) + 1 from rfl, mr_nameOf, hc, qB_some, psh_some, b_X12_one_149, if_pos (by omega), b_X12_one_171]
    refine Eq.trans c3 ?_
    rw [b_X12_one_229, if_pos rfl, b_X12_one_234, mr_wrong, if_pos hf, qB_some, psh_some, b_X12_one_238, b_X12_one_242]
  -- too many are open
  have full : ∀ c : Int, o = 6 → qG L xs (D + 3) CX12_one 32 [(2, 63), (0, c), (9, 0), (9, 0), (9, 0)] [] (qS (rdS v k f o)) = some (some (0, 0), qS (rdS v k (k : Int) o)) := fun c h6 => by
    rw [b_X12_one_32, rd_19, if_pos (by omega), b_X12_one_41, show D + 3 = (D + 2) + 1 from rfl, mr_wrong, if_pos hf, qB_some, psh_some, b_X12_one_45]
  -- one more is opened
  have open1 : ∀ c : Int, o < 6 → qG L xs (D + 3) CX12_one 32 [(2, 63), (0, c), (9, 0), (9, 0), (9, 0)] [] (qS (rdS v k f o)) = qG L xs (D + 3) CX12_one 66 [(2, 63), (0, c), (9, 0), (9, 0), (9, 0)] [] (qS (rdS v ((k : Int) + 1) f ((o : Int) + 1))) := fun c h6 => by
    rw [b_X12_one_32, rd_19, if_neg (by omega), b_X12_one_46, rd_19, w32_id (z := (o : Int) + 1) (by omega) (by omega), rd_u19, b_X12_one_56, rd_16, wk, rd_u16]
  rw [st]
  by_cases hk2 : k < e
  · have bk : byt b e k = b k := if_pos hk2
    rw [bk]
    by_cases q1 : 0 ≤ nmI (b k)
    · obtain ⟨n1, n2, n3⟩ := nm_yes q1
      have nr := nmI_r (b k)
      refine ⟨o, fun _ => rfl, ?_⟩
      rw [tx_op hf, vp_op hf, if_pos hk2, if_pos hk2, if_pos q1, if_pos q1, if_neg n1, if_neg n2, if_neg n3, b_X12_one_145, show D + 3 = (D + 2) + 1 from rfl, mr_nameOf, qB_some, psh_some, b_X12_one_149, if_neg (by omega), b_X12_one_154, rd_16, wk, rd_u16, b_X12_one_164, if_pos (by omega), rd_ne (by omega), hn6 _ (by omega), b_X12_one_170]
      rfl
    · by_cases q2 : dgt (b k)
      · have hd : 48 ≤ b k ∧ b k ≤ 57 := q2
        have rl := rd_lt (b := b) (e := e) k hk2 q2
        obtain ⟨c0, c1, c2, c3⟩ := mr_digits (L := L) (xs := xs) (d := D + 2) (f := f) (o := (o : Int)) h (b k) (-1) 4 k 0 (by omega) hk (by omega) (by decide)
        have c0z : ¬ c0 = 0 := fun z => by
          have := c1.mp z
          omega
        refine ⟨o, fun _ => rfl, ?_⟩
        rw [tx_op hf, vp_op hf, if_pos hk2, if_pos hk2, if_neg q1, if_neg q1, if_pos q2, if_pos q2, if_neg (by omega), if_neg (by omega), if_neg (by omega), b_X12_one_145, show D + 3 = (D + 2) + 1 from rfl, mr_nameOf, nm_no (by omega), qB_some, psh_some, b_X12_one_149, if_pos (by omega), b_X12_one_171]
        refine Eq.trans c3 ?_
        rw [b_X12_one_229, if_neg c0z, b_X12_one_241, b_X12_one_242]
      · have nd : ¬ (48 ≤ b k ∧ b k ≤ 57) := q2
        have rz : (rdNum b e 4 0 k).2 = k ∧ (rdNum b e 4 0 k).1 = 0 := by
          have : rdNum b e 4 0 k = (0, k) := if_neg (fun z => q2 z.2)
          rw [this]
          exact ⟨rfl, rfl⟩
        have nr := nmI_r (b k)
        by_cases q3 : o < 6 ∧ b k = 40
        · obtain ⟨o1, p1, p2⟩ := hA d 0 (o + 1) (k + 1) f (by omega) (by omega) (by omega) hf (by have : rkT 0 = 12 := rfl; rw [this]; omega)
          rw [show ((k + 1 : Nat) : Int) = (k : Int) + 1 by omega, show ((o + 1 : Nat) : Int) = (o : Int) + 1 by omega] at p2
          have dd : dpR d (o + 1) 0 = D + 3 := by
            have := dp_5 d o
            unfold dpR at this hD ⊢
            omega
          have p2' : qE L xs (D + 3) nX12_either [(2, 63)] (qS (rdS v ((k : Int) + 1) f ((o : Int) + 1))) = _ := dd ▸ p2
          rw [tx_op hf, vp_op hf, if_pos hk2, if_pos hk2, if_neg q1, if_neg q1, if_neg q2, if_neg q2, if_pos q3, if_pos q3, if_neg (show ¬ b k = 33 by omega), if_neg (show ¬ b k = 45 by omega), if_pos q3.2, open1 _ q3.1, b_X12_one_66, if_pos q3.2, b_X12_one_72, p2', qB_some, psh_some, b_X12_one_76, b_X12_one_83, if_pos q3.2, b_X12_one_90, show D + 3 = (D + 1) + 2 from rfl, mr_takes h 41 (by decide)]
          by_cases q4 : (txP b e n 0 (o + 1) (k + 1) f).2.2 < 0 ∧ (txP b e n 0 (o + 1) (k + 1) f).2.1 < e ∧ b (txP b e n 0 (o + 1) (k + 1) f).2.1 = 41
          · have o1e := p1 q4.1
            rw [if_pos q4, if_pos q4, if_pos q4]
            refine ⟨o, fun _ => rfl, ?_⟩
            rw [qB_some, psh_some, b_X12_one_96, if_neg (by decide), b_X12_one_104, rd_19, o1e, w32_id (by omega) (by omega), rd_u19, b_X12_one_114, if_pos q3.2, b_X12_one_120, b_X12_one_144, show ((o + 1 : Nat) : Int) - 1 = (o : Int) by omega]
            rfl
          · rw [if_neg q4, if_neg q4, if_neg q4]
            refine ⟨o1, fun hh => ?_, ?_⟩
            · dsimp only at hh
              split at hh <;> omega
            · rw [qB_some, psh_some, b_X12_one_96, if_pos rfl, b_X12_one_99, show D + 1 + 2 = (D + 2) + 1 from rfl, mr_wrong, qB_some, psh_some, b_X12_one_103]
        · by_cases q4 : o < 6 ∧ (b k = 33 ∨ b k = 45)
          · obtain ⟨o1, p1, p2⟩ := hA (d + 5) 5 (o + 1) (k + 1) f (by omega) (by omega) (by omega) hf (by have : rkT 5 = 2 := rfl; rw [this]; omega)
            rw [show ((k + 1 : Nat) : Int) = (k : Int) + 1 by omega, show ((o + 1 : Nat) : Int) = (o : Int) + 1 by omega] at p2
            have dd : dpR (d + 5) (o + 1) 5 = D + 3 := by
              have := dp_5 d o
              have := dp_5 (d + 5) (o + 1)
              omega
            have p2' : qE L xs (D + 3) nX12_one [(2, 63)] (qS (rdS v ((k : Int) + 1) f ((o : Int) + 1))) = _ := dd ▸ p2
            have n40 : ¬ b k = 40 := by omega
            have s32 : qG L xs (D + 3) CX12_one 32 [(2, 63), (0, b k), (9, 0), (9, 0), (9, 0)] [] (qS (rdS v k f o)) = some (some (0, if b k = 45 then w32 (-(vP b e nm n 5 (o + 1) (k + 1) f 0)) else if vP b e nm n 5 (o + 1) (k + 1) f 0 = 0 then 1 else 0), qS (rdS v (txP b e n 5 (o + 1) (k + 1) f).2.1 (txP b e n 5 (o + 1) (k + 1) f).2.2 (w32 (o1 - 1)))) := by
              rw [open1 _ q4.1, b_X12_one_66, if_neg n40, b_X12_one_79, p2', qB_some, psh_some, b_X12_one_83, if_neg n40, b_X12_one_104, rd_19, rd_u19, b_X12_one_114, if_neg n40, b_X12_one_124]
              by_cases q5 : b k = 45
              · rw [if_pos q5, if_pos q5, b_X12_one_130, b_X12_one_144]
              · rw [if_neg q5, if_neg q5, b_X12_one_135]
                by_cases q6 : vP b e nm n 5 (o + 1) (k + 1) f 0 = 0
                · rw [if_pos q6, if_pos q6, b_X12_one_139, b_X12_one_144]
                · rw [if_neg q6, if_neg q6, b_X12_one_143, b_X12_one_144]
            rw [tx_op hf, vp_op hf, if_pos hk2, if_pos hk2, if_neg q1, if_neg q1, if_neg q2, if_neg q2, if_neg q3, if_neg q3, if_pos q4, if_pos q4]
            refine ⟨w32 (o1 - 1), fun hh => ?_, ?_⟩
            · rw [p1 hh, show ((o + 1 : Nat) : Int) - 1 = (o : Int) by omega]
              exact w32_id (by omega) (by omega)
            · rcases q4.2 with q5 | q5
              · rw [if_pos q5]
                exact s32
              · rw [if_neg (by omega), if_pos q5]
                exact s32
          · rw [tx_op hf, vp_op hf, if_pos hk2, if_pos hk2, if_neg q1, if_neg q1, if_neg q2, if_neg q2, if_neg q3, if_neg q3, if_neg q4, if_neg q4]
            refine ⟨o, fun _ => rfl, ?_⟩
            by_cases h6 : o = 6
            · by_cases q5 : b k = 33
              · rw [if_pos q5]
                exact full _ h6
              · by_cases q6 : b k = 45
                · rw [if_neg q5, if_pos q6]
                  exact full _ h6
                · by_cases q7 : b k = 40
                  · rw [if_neg q5, if_neg q6, if_pos q7]
                    exact full _ h6
                  · rw [if_neg q5, if_neg q6, if_neg q7]
                    exact bad _ (by omega) rz
            · rw [if_neg (by omega), if_neg (by omega), if_neg (by omega)]
              exact bad _ (by omega) rz
  · have bk : byt b e k = 0 := if_neg hk2
    rw [bk, tx_op hf, vp_op hf, if_neg hk2, if_neg hk2, if_neg (by decide), if_neg (by decide), if_neg (by decide)]
    refine ⟨o, fun _ => rfl, ?_⟩
    have rz : (rdNum b e 4 0 k).2 = k ∧ (rdNum b e 4 0 k).1 = 0 := by
      have : rdNum b e 4 0 k = (0, k) := if_neg (fun z => hk2 z.1)
      rw [this]
      exact ⟨rfl, rfl⟩
    exact bad 0 (by decide) rz
/-- all of it, level by level -/
theorem rd_all (h : rdB v b e) (hn6 : ∀ i, i < 6 → v 73 i = nm i) : ∀ n d, rdA L xs d v b e nm n ∧ rdC L xs d v b e nm n
  | 0, d => ⟨fun m o k f _ _ _ _ h6 => absurd h6 (by omega), fun l o k f a z u2 u3 _ _ _ _ h6 => absurd h6 (by omega)⟩
  | n + 1, d => by
    have ih := rd_all h hn6 n
    refine ⟨fun m o k f hm ho hk hf hn => ?_, rd_loop h (ih d).1 (ih d).2⟩
    by_cases g : m < 5
    · exact rd_level h (ih d).1 (ih d).2 g ho hk hf hn
    · have : m = 5 := by omega
      subst this
      exact rd_operand h hn6 (fun d => (ih d).1) ho hk hf hn
/-- a whole E -/
theorem rd_either (h : rdB v b e) (hn6 : ∀ i, i < 6 → v 73 i = nm i) {k : Nat} {f : Int} (hk : k ≤ e) (hf : f < 0) (D : Nat) : ∃ o' : Int, ((txP b e 2500 0 0 k f).2.2 < 0 → o' = 0) ∧ qE L xs (D + 45) nX12_either [(2, 63)] (qS (rdS v k f 0)) = some (some (0, vP b e nm 2500 0 0 k f 0), qS (rdS v (txP b e 2500 0 0 k f).2.1 (txP b e 2500 0 0 k f).2.2 o')) := by
  obtain ⟨o', p1, p2⟩ := (rd_all (L := L) (xs := xs) h hn6 2500 D).1 0 0 k f (by omega) (by omega) hk hf (by have : rkT 0 = 12 := rfl; rw [this]; omega)
  exact ⟨o', p1, p2⟩
end OTE
