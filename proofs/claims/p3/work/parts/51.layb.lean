/-! WAYS: lay() lays the steps that are there -/
section LZ
variable {L : Nat} {xs : Nat → Int} {d : Nat} {v : Nat → Nat → Int}
def uT (c : Nat → Nat → Nat → Int) (j a b : Nat) (k x : Int) : Prop := a < j ∧ b = a + 2 ∧ k = c (a / 2) (a % 2) 1 ∧ x = -1
def dT (c : Nat → Nat → Nat → Int) (j P a b : Nat) (k x : Int) : Prop := j ≤ a ∧ a < P ∧ b + 2 = a ∧ k = c (a / 2) (a % 2) 0 ∧ x = -1
theorem fW_ly {v w : Nat → Nat → Int} (h : ∀ c, c < 29 ∨ 33 < c → w c = v c) : fW v w := fW_own (fun c hc => h c (by omega))
theorem LyI_M {v w : Nat → Nat → Int} {S P : Nat} {T : Nat → Nat → Int → Int → Prop} (hc : fM v w) (h : LyI v S P T) : LyI w S P T := LyI_cg (fun c h1 h2 => hc.1 c (by omega) (by omega) (by omega)) h
theorem lp_up {c : Nat → Nat → Nat → Int} {P : Nat} (hP2 : P ≤ 60) : ∀ (n j : Nat) (v : Nat → Nat → Int), j + n + 2 = P → LM L xs v c → LyI v j P (uT c j) → ∃ v', qG L xs (d + 8) CX10_layAlong 2 [(2, 29), (2, 1), (2, 23), (0, (j : Int))] [] (qS v) = qG L xs (d + 8) CX10_layAlong 39 [(2, 29), (2, 1), (2, 23), (0, ((P - 2 : Nat) : Int))] [] (qS v') ∧ fW v v' ∧ LyI v' (P - 2) P (uT c (P - 2))
  | 0, j, v, hj, hM, h => by
    have h9 := h.1.2.2.1
    have hj2 : P - 2 = j := by omega
    rw [hj2]
    refine ⟨v, ?_, fW_r v, h⟩
    rw [b_X10_layAlong_2, h9, w32_id (by omega) (by omega), if_neg (by omega)]
  | n + 1, j, v, hj, hM, h => by
    have h9 := h.1.2.2.1
    obtain ⟨v1, e1, e2⟩ := hM.2 v (gW_r v) d (j / 2) (j % 2) 1 (by omega) (by omega) (by omega)
    have hk := hM.1 (j / 2) (j % 2) 1
    obtain ⟨v2, e3, e4, e5⟩ := c_add (L := L) (xs := xs) (d := d + 6) (LyI_M e2 h) (by omega) (a := j) (b := j + 2) (by omega) (by omega) (x := -1) hk
    have f2 : fW v v2 := fW_t (fM_W e2) (fW_ly e4)
    obtain ⟨v3, e6, e7, e8⟩ := lp_up hP2 n (j + 1) v2 (by omega) (LM_W hM f2) (LyI_if (fun a b k x => by
      unfold uT
      constructor
      · rintro (⟨g1, g2, g3, g4⟩ | ⟨rfl, g2, g3, g4⟩)
        · exact ⟨by omega, g2, g3, g4⟩
        · exact ⟨by omega, g2, g3, g4⟩
      · rintro ⟨g1, g2, g3, g4⟩
        by_cases ha : a = j
        · subst ha
          exact Or.inr ⟨rfl, g2, g3, g4⟩
        · exact Or.inl ⟨by omega, g2, g3, g4⟩) e5)
    refine ⟨v3, ?_, fW_t f2 e7, e8⟩
    refine Eq.trans ?_ e6
    rw [b_X10_layAlong_2, h9, w32_id (by omega) (by omega), if_pos (by omega), b_X10_layAlong_12, half_p j (by omega), odd_p]
    have e1' : qE L xs (d + 8) nX5_minutes [(2, 23), (2, 1), (0, ((j / 2 : Nat) : Int)), (0, ((j % 2 : Nat) : Int)), (0, 1)] (qS v) = _ := e1
    rw [e1', qB_some, psh_some, w32_id (by omega) (by omega), show (j : Int) + 2 = ((j + 2 : Nat) : Int) by omega, b_X10_layAlong_29, e3, qB_some, psh_none, b_X10_layAlong_33, w32_id (by omega) (by omega)]
    rfl
theorem lp_dn {c : Nat → Nat → Nat → Int} {P : Nat} (hP2 : P ≤ 60) (hP3 : 2 ≤ P) : ∀ (n j : Nat) (v : Nat → Nat → Int), j = n + 2 → j ≤ P → LM L xs v c → LyI v (P - 2 + (P - j)) P (fun a b k x => uT c (P - 2) a b k x ∨ dT c j P a b k x) → ∃ v', qG L xs (d + 8) CX10_layAlong 46 [(2, 29), (2, 1), (2, 23), (0, (j : Int) - 1)] [] (qS v) = some (none, qS v') ∧ fW v v' ∧ LyI v' (P - 2 + (P - 2)) P (fun a b k x => uT c (P - 2) a b k x ∨ dT c 2 P a b k x)
  | 0, j, v, hj, hjP, hM, h => by
    have hj2 : j = 2 := by omega
    subst hj2
    refine ⟨v, ?_, fW_r v, h⟩
    rw [b_X10_layAlong_46, if_pos (by omega), b_X10_layAlong_78]
  | n + 1, j, v, hj, hjP, hM, h => by
    obtain ⟨i, hi⟩ : ∃ i, j = i + 1 := ⟨j - 1, by omega⟩
    subst hi
    obtain ⟨v1, e1, e2⟩ := hM.2 v (gW_r v) d (i / 2) (i % 2) 0 (by omega) (by omega) (by omega)
    have hk := hM.1 (i / 2) (i % 2) 0
    obtain ⟨v2, e3, e4, e5⟩ := c_add (L := L) (xs := xs) (d := d + 6) (LyI_M e2 h) (by omega) (a := i) (b := i - 2) (by omega) (by omega) (x := -1) hk
    have f2 : fW v v2 := fW_t (fM_W e2) (fW_ly e4)
    rw [show P - 2 + (P - (i + 1)) + 1 = P - 2 + (P - i) by omega] at e5
    obtain ⟨v3, e6, e7, e8⟩ := lp_dn hP2 hP3 n i v2 (by omega) (by omega) (LM_W hM f2) (LyI_if (fun a b k x => by
      unfold dT
      constructor
      · rintro ((g | ⟨g1, g2, g3, g4⟩) | ⟨rfl, g2, g3, g4⟩)
        · exact Or.inl g
        · exact Or.inr ⟨by omega, g2, g3, g4⟩
        · exact Or.inr ⟨by omega, by omega, by omega, g3, g4⟩
      · rintro (g | ⟨g1, g2, g3, g4⟩)
        · exact Or.inl (Or.inl g)
        · by_cases ha : a = i
          · subst ha
            exact Or.inr ⟨rfl, by omega, g4⟩
          · exact Or.inl (Or.inr ⟨by omega, g2, g3, g4⟩)) e5)
    refine ⟨v3, ?_, fW_t f2 e7, e8⟩
    refine Eq.trans ?_ e6
    rw [show ((i + 1 : Nat) : Int) - 1 = (i : Int) by omega, b_X10_layAlong_46, if_neg (by omega), b_X10_layAlong_51, half_p i (by omega), odd_p]
    have e1' : qE L xs (d + 8) nX5_minutes [(2, 23), (2, 1), (0, ((i / 2 : Nat) : Int)), (0, ((i % 2 : Nat) : Int)), (0, 0)] (qS v) = _ := e1
    rw [e1', qB_some, psh_some, w32_id (by omega) (by omega), show (i : Int) - 2 = ((i - 2 : Nat) : Int) by omega, b_X10_layAlong_68, e3, qB_some, psh_none, b_X10_layAlong_72, w32_id (by omega) (by omega)]
    rfl
theorem c_layAlong {c : Nat → Nat → Nat → Int} {P : Nat} (hP2 : P ≤ 60) (hP3 : 2 ≤ P) (hM : LM L xs v c) (h : LyI v 0 P (fun _ _ _ _ => False)) : ∃ v', qE L xs (d + 9) nX10_layAlong [(2, 29), (2, 1), (2, 23)] (qS v) = some (none, qS v') ∧ fW v v' ∧ LyI v' (P - 2 + (P - 2)) P (fun a b k x => uT c (P - 2) a b k x ∨ dT c 2 P a b k x) := by
  obtain ⟨v1, e1, e2, e3⟩ := lp_up (L := L) (xs := xs) (d := d) hP2 (P - 2) 0 v (by omega) hM (LyI_if (fun a b k x => ⟨False.elim, fun g => absurd g.1 (by omega)⟩) h)
  have h9 := e3.1.2.2.1
  obtain ⟨v2, e4, e5, e6⟩ := lp_dn (L := L) (xs := xs) (d := d) (c := c) hP2 hP3 (P - 2) P v1 (by omega) (by omega) (LM_W hM e2) (by
    rw [show P - 2 + (P - P) = P - 2 by omega]
    refine LyI_if (fun a b k x => ⟨Or.inl, ?_⟩) e3
    rintro (g | ⟨g1, g2, g3⟩)
    · exact g
    · omega)
  refine ⟨v2, ?_, fW_t e2 e5, e6⟩
  rw [e_X10_layAlong, b_X10_layAlong_0]
  refine Eq.trans e1 ?_
  rw [b_X10_layAlong_39, h9, w32_id (by omega) (by omega)]
  exact e4
theorem c_isHoleOpen (hW : WW v) (h : Nat) (hh : (h : Int) < v 1 1) : qE L xs (d + 4) nX9_isHoleOpen [(2, 1), (0, (h : Int))] (qS v) = some (some (0, zb (v 6 h = 1 ∧ 0 ≤ v 15 h ∧ v 15 h < v 11 0)), qS v) := by
  obtain ⟨h1, h2, h3, h4, h5, h6⟩ := hW
  have a3 : hm v 3 = v 1 1 := rfl
  have a12 : hm v 12 = v 1 1 := rfl
  rw [e_X9_isHoleOpen, b_X9_isHoleOpen_0, c_value_in 3 h (by omega) (by omega) (by omega) (by omega) (by omega), qB_some, psh_some]
  rw [show v (3 + (3 : Int).toNat) (h : Int).toNat = v 6 h from rfl, b_X9_isHoleOpen_6]
  by_cases g : v 6 h = 1
  · rw [if_pos g, b_X9_isHoleOpen_10, c_value_in 12 h (by omega) (by omega) (by omega) (by omega) (by omega), qB_some, psh_some, show v (3 + (12 : Int).toNat) (h : Int).toNat = v 15 h from rfl, b_X9_isHoleOpen_18, c_hasYard, qB_some, psh_some, b_X9_isHoleOpen_21, zb_0]
    by_cases g2 : 0 ≤ v 15 h ∧ v 15 h < v 11 0
    · rw [if_pos g2, b_X9_isHoleOpen_24, b_X9_isHoleOpen_29, if_pos (by omega), zb_t ⟨g, g2⟩]
    · rw [if_neg g2, b_X9_isHoleOpen_28, b_X9_isHoleOpen_29, if_pos (by omega), zb_f (fun q => g2 q.2)]
  · rw [if_neg g, b_X9_isHoleOpen_28, b_X9_isHoleOpen_29, if_pos (by omega), zb_f (fun q => g q.1)]
theorem c_isLaneOpen (hW : WW v) (l : Nat) (hl : (l : Int) < v 1 2) : qE L xs (d + 4) nX9_isLaneOpen [(2, 1), (0, (l : Int))] (qS v) = some (some (0, zb (v 8 l = 1 ∧ (0 ≤ v 16 l ∧ v 16 l < 2 * v 11 0) ∧ 0 ≤ v 17 l ∧ v 17 l < 2 * v 11 0)), qS v) := by
  obtain ⟨h1, h2, h3, h4, h5, h6⟩ := hW
  have a5 : hm v 5 = v 1 2 := rfl
  have a13 : hm v 13 = v 1 2 := rfl
  have a14 : hm v 14 = v 1 2 := rfl
  rw [e_X9_isLaneOpen, b_X9_isLaneOpen_0, c_value_in 5 l (by omega) (by omega) (by omega) (by omega) (by omega), qB_some, psh_some]
  rw [show v (3 + (5 : Int).toNat) (l : Int).toNat = v 8 l from rfl, b_X9_isLaneOpen_6]
  by_cases g : v 8 l = 1
  · rw [if_pos g, b_X9_isLaneOpen_10, c_value_in 13 l (by omega) (by omega) (by omega) (by omega) (by omega), qB_some, psh_some, show v (3 + (13 : Int).toNat) (l : Int).toNat = v 16 l from rfl, b_X9_isLaneOpen_18, c_hasPlace (by omega) (by omega), qB_some, psh_some, b_X9_isLaneOpen_21, zb_0]
    by_cases g2 : 0 ≤ v 16 l ∧ v 16 l < 2 * v 11 0
    · rw [if_pos g2, b_X9_isLaneOpen_24, c_value_in 14 l (by omega) (by omega) (by omega) (by omega) (by omega), qB_some, psh_some, show v (3 + (14 : Int).toNat) (l : Int).toNat = v 17 l from rfl, b_X9_isLaneOpen_32, c_hasPlace (by omega) (by omega), qB_some, psh_some, b_X9_isLaneOpen_35, zb_0]
      by_cases g3 : 0 ≤ v 17 l ∧ v 17 l < 2 * v 11 0
      · rw [if_pos g3, b_X9_isLaneOpen_38, b_X9_isLaneOpen_43, if_pos (by omega), zb_t ⟨g, g2, g3⟩]
      · rw [if_neg g3, b_X9_isLaneOpen_42, b_X9_isLaneOpen_43, if_pos (by omega), zb_f (fun q => g3 q.2.2)]
    · rw [if_neg g2, b_X9_isLaneOpen_42, b_X9_isLaneOpen_43, if_pos (by omega), zb_f (fun q => g2 q.2.1)]
  · rw [if_neg g, b_X9_isLaneOpen_42, b_X9_isLaneOpen_43, if_pos (by omega), zb_f (fun q => g q.1)]
end LZ
