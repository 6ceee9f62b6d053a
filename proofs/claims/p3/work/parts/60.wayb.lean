/-! WAY: both answer, and alike -/
section WZ
variable {L : Nat} {xs : Nat → Int} {d : Nat} {v : Nat → Nat → Int} {c : Nat → Nat → Nat → Int} {P : Nat}
/-- class's ways back -/
theorem c_ways_back (hW : WW v) (hM : LM L xs v c) (hP : 2 * v 11 0 = (P : Int)) {s : Nat} (hs : s < P) : ∃ v1 v2 S, qE L xs (d + 10) nX10_lay [(2, 29), (2, 1), (2, 23)] (qS v) = some (none, qS v1) ∧ qE L xs (d + 10) nX10_spreadBack [(2, 29), (0, (s : Int))] (qS v1) = some (none, qS v2) ∧ fW v v2 ∧ WOK v2 S P ∧ EC v2 S (-1) = SG v c (-1) (-1) (-1) ∧ ∀ p, p < P → Lst (SG v c (-1) (-1) (-1)) p s 9999 (v2 34 p) := by
  obtain ⟨v1, S, e1, e2, e3⟩ := c_lay (L := L) (xs := xs) (d := d) hW hP hM
  obtain ⟨v2, e4, e5, e6⟩ := c_back (L := L) (xs := xs) (d := d + 7) e3.1 (EC_all hW e3) hs
  exact ⟨v1, v2, S, e1, e4, fW_t e2 (fW_own (fun c hc => e5 c (by omega))), WOK_cg e5 e3.1, by rw [EC_cg e5]; exact EC_all hW e3, e6⟩
theorem op_way (hz : Wz L xs v c) (y w : Int) (hy : y < 2147483648) : opW L xs d v nX11_way nX12_way [(0, y), (0, w)] := by
  have hz0 := hz
  obtain ⟨hW, hC, hM, hN, h5, h6, h7⟩ := hz
  have hW0 := hW
  obtain ⟨q1, -⟩ := hW0
  have k1 := hC.1.1
  obtain ⟨P, hP⟩ : ∃ P : Nat, 2 * v 11 0 = (P : Int) := ⟨(2 * v 11 0).toNat, by omega⟩
  by_cases g : (0 ≤ y ∧ y / 100 < 2 * v 11 0 ∧ y % 100 < 2 * v 11 0) ∧ 0 ≤ w ∧ w ≤ 1
  · obtain ⟨a, ha⟩ : ∃ a : Nat, y / 100 = (a : Int) := ⟨(y / 100).toNat, by omega⟩
    obtain ⟨b, hb⟩ : ∃ b : Nat, y % 100 = (b : Int) := ⟨(y % 100).toNat, by omega⟩
    have y1 : w32 (Int.tdiv y 100) = (a : Int) := by rw [td_pos 100 (by omega), w32_id (by omega) (by omega), ha]
    have y2 : Int.tmod y 100 = (b : Int) := by rw [tm_pos 100 (by omega), hb]
    have haP : a < P := by omega
    have hbP : b < P := by omega
    obtain ⟨v1, v2, S, e1, e2, e3, e4, eE, e5⟩ := c_ways_back (L := L) (xs := xs) (d := d + 89) hW hM hP hbP
    have hz2 := Wz_W e3 hz0
    obtain ⟨hW2, hC2, hM2, hN2, h52, h62, h72⟩ := hz2
    have hP2 : 2 * v2 11 0 = (P : Int) := by rw [fW_c e3 (c := 11) (by omega)]; exact hP
    have k2 : 2 * v2 64 140 = (P : Int) := by rw [hC2.1.1]; exact hP2
    have hT : Okg (SG v c (-1) (-1) (-1)) P 99 := SG_ok hW hM.1 hP (by omega)
    obtain ⟨v3, f1, f2, f3⟩ := m_asks (L := L) (xs := xs) (d := d + 7) hW2 hC2 hN2 h52 h62 h72 (by omega)
    rw [SG_W e3] at f3
    have k3 : 2 * v3 64 140 = (P : Int) := by rw [fN_c (fA_N f2) (c := 64) (by omega)]; exact k2
    obtain ⟨v4, r4, f4, f5, f6⟩ := m_wayFrom (L := L) (xs := xs) (d := d + 96) (s := a) (p := b) (by omega) k3 hT f3 haP hbP
    have fP4 : fP v2 v4 := fP_t (fA_P f2) (fP_75 f5)
    have hab := Lst_one (e5 a haP) f6
    have base1 : qE L xs (d + 100) nX11_way [(2, 0), (0, y), (0, w)] (qS v) = (if v2 34 a < 9999 then qG L xs (d + 99) CX11_way 71 [(2, 0), (0, y), (0, w), (0, (a : Int)), (0, (b : Int))] [] (qS v2) else some (some (0, -2), qS v2)) := by
      rw [e_X11_way, b_X11_way_0, c_arePlaces (by omega) (by omega) y hy, qB_some, psh_some, b_X11_way_5, zb_0, if_pos g.1, b_X11_way_8, if_neg (by omega), b_X11_way_12, if_neg (by omega), b_X11_way_19, e1, qB_some, psh_none, y1, y2, b_X11_way_45, e2, qB_some, psh_none, b_X11_way_54, c_minutes e4 haP, qB_some, psh_some, b_X11_way_62]
      by_cases z : v2 34 a < 9999
      · rw [if_pos z, if_pos z]
      · rw [if_neg z, if_neg z, b_X11_way_68]
    have base2 : qE L xs (d + 100) nX12_way [(2, 63), (0, y), (0, w)] (qS v2) = qG L xs (d + 99) CX12_way 42 [(2, 63), (0, y), (0, w), (0, (a : Int)), (0, (b : Int)), (9, 0), (9, 0), (9, 0), (9, 0)] [(0, r4)] (qS v4) := by
      rw [e_X12_way, b_X12_way_0, m_isAb (by omega) (by omega) y hy, qB_some, psh_some, b_X12_way_5, zb_0, if_pos (by omega), b_X12_way_8, c_within, qB_some, psh_some, b_X12_way_15, zb_0, if_pos (by omega), b_X12_way_20, f1, qB_some, psh_none, y1, y2, b_X12_way_35, f4, qB_some, psh_some]
    rcases hab with ⟨z1, z2, z3, z4⟩ | ⟨z1, z2, z3⟩
    · by_cases w0 : w = 0
      · refine ⟨v2 34 a, v2, v4, ?_, e3, ?_, fP4⟩
        · rw [base1, if_pos (by omega), b_X11_way_71, if_pos w0, b_X11_way_75, c_minutes e4 haP, qB_some, psh_some, b_X11_way_83]
        · rw [base2, b_X12_way_42, if_pos w0, b_X12_way_53, z3]
      · by_cases hab : a = b
        · refine ⟨(b : Int), v2, v4, ?_, e3, ?_, fP4⟩
          · rw [base1, if_pos (by omega), b_X11_way_71, if_neg w0, b_X11_way_84, if_pos (by omega), b_X11_way_90, b_X11_way_103]
          · rw [base2, b_X12_way_42, if_neg w0, b_X12_way_48, if_neg (by omega), b_X12_way_56, if_pos (by omega), b_X12_way_62, hab]
        · have hm9 : ∀ p, p < P → 0 ≤ v2 34 p ∧ v2 34 p ≤ 9999 := fun p hp => by
            rcases e5 p hp with ⟨x1, x2, -, -⟩ | ⟨x1, -⟩
            · omega
            · omega
          obtain ⟨r, g1, g2⟩ := c_firstStep (L := L) (xs := xs) (d := d + 97) e4 haP hm9
          rw [eE] at g2
          have M3 : MH v4 (SG v c (-1) (-1) (-1)) := MH_cg (f5 74 (by decide) (by decide)) f3
          have hg : ∀ p, p < P → 1 ≤ v4 74 (60 * a + p) ∧ v4 74 (60 * a + p) ≤ 1000000 := fun p hp => by
            have := (MH_MOK (N := P) (by omega) M3).2 a p haP hp
            omega
          obtain ⟨v5, r5, j1, j2, j3⟩ := lp_mway (L := L) (xs := xs) (d := d + 95) (P := P) (T := SG v c (-1) (-1) (-1)) (g := fun p => v4 74 (60 * a + p)) (a := a) (b := b) y w (x := v2 34 a) (by omega) hT haP hbP hg P 0 v4 (9, 0) (9, 0) (by omega) (by rw [fN_c fP4.1 (c := 64) (by omega)]; exact k2) M3 (fun _ _ => rfl) (fun p hp => absurd hp (by omega))
          have hrr : r5 = r := Fst_one g2 j3 (fun p hp => by
            constructor
            · rintro ⟨k, t1, t2⟩
              have k99 := hT a p k t1
              have t3 := M3.2.1 a p k t1
              have t3' : v4 74 (60 * a + p) < 1000000 := by omega
              have t4 : SG v c (-1) (-1) (-1) a p (v4 74 (60 * a + p)) := by
                rcases M3.1 a p (by omega) (by omega) with s1 | s1
                · omega
                · exact s1
              rcases e5 p hp with ⟨x1, x2, ⟨n1, x3⟩, x4⟩ | ⟨x1, -⟩
              · have t5 : v2 34 a ≤ v4 74 (60 * a + p) + v2 34 p := by
                  rcases e5 a haP with ⟨-, -, -, s4⟩ | ⟨s1, -⟩
                  · exact s4 _ _ (Wk_cons t4 x3)
                  · omega
                exact ⟨t3', v2 34 p, x1, Or.inl ⟨x1, x2, ⟨n1, x3⟩, x4⟩, by show v4 74 (60 * a + p) + v2 34 p = v2 34 a; omega⟩
              · omega
            · rintro ⟨t1, x, t2, t3, t4⟩
              dsimp only at t1 t4
              have t5 : SG v c (-1) (-1) (-1) a p (v4 74 (60 * a + p)) := by
                rcases M3.1 a p (by omega) (by omega) with s1 | s1
                · omega
                · exact s1
              refine ⟨_, t5, ?_⟩
              rcases Lst_one (e5 p hp) t3 with ⟨s1, s2, s3, -⟩ | ⟨-, s2, -⟩
              · omega
              · omega)
          refine ⟨r, v2, v5, ?_, e3, ?_, fP_t fP4 (fP_75 j2)⟩
          · rw [base1, if_pos (by omega), b_X11_way_71, if_neg w0, b_X11_way_84, if_neg (by omega), b_X11_way_95, g1, qB_some, psh_some, b_X11_way_103]
          · rw [base2, b_X12_way_42, if_neg w0, b_X12_way_48, if_neg (by omega), b_X12_way_56, if_neg (by omega), b_X12_way_64, z3]
            rw [hrr] at j1
            exact j1
    · refine ⟨-2, v2, v4, ?_, e3, ?_, fP4⟩
      · rw [base1, if_neg (by omega)]
      · rw [base2, b_X12_way_42, z2]
        by_cases w0 : w = 0
        · rw [if_pos w0, b_X12_way_53]
        · rw [if_neg w0, b_X12_way_48, if_pos (by omega), b_X12_way_53]
  · refine opW_no (r := -1) ?_ ?_
    · rw [e_X11_way, b_X11_way_0, c_arePlaces (by omega) (by omega) y hy, qB_some, psh_some, b_X11_way_5, zb_0]
      by_cases g1 : 0 ≤ y ∧ y / 100 < 2 * v 11 0 ∧ y % 100 < 2 * v 11 0
      · rw [if_pos g1, b_X11_way_8]
        by_cases g2 : w < 0
        · rw [if_pos g2, b_X11_way_17]
        · rw [if_neg g2, b_X11_way_12, if_pos (by omega), b_X11_way_17]
      · rw [if_neg g1, b_X11_way_17]
    · rw [e_X12_way, b_X12_way_0, m_isAb (by omega) (by omega) y hy, qB_some, psh_some, b_X12_way_5, zb_0, k1]
      by_cases g1 : 0 ≤ y ∧ y / 100 < 2 * v 11 0 ∧ y % 100 < 2 * v 11 0
      · rw [if_pos g1, b_X12_way_8, c_within, qB_some, psh_some, b_X12_way_15, zb_0, if_neg (by omega), b_X12_way_18]
      · rw [if_neg g1, b_X12_way_18]
end WZ
