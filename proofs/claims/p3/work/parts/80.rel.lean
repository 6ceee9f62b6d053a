/-! THE RELATION that every call keeps: the program's numbers against the reference's -/
section RR
variable {L : Nat} {xs : Nat → Int} {d : Nat} {v w : Nat → Nat → Int}
/-- THE TEXT, read: signs as they are worked out, the place behind, the fault -/
abbrev sgn (l : Nat) (x : Int) : Prop := (l = 0 ∧ x = 124) ∨ (l = 1 ∧ x = 38) ∨ (l = 2 ∧ (x = 60 ∨ x = 61 ∨ x = 62)) ∨ (l = 3 ∧ (x = 43 ∨ x = 45)) ∨ (l = 4 ∧ (x = 42 ∨ x = 47 ∨ x = 37))
def nmI (x : Int) : Int := if x = 116 then 0 else if x = 119 then 1 else if x = 111 then 2 else if x = 115 then 3 else if x = 121 then 4 else if x = 100 then 5 else -1
abbrev dgt (x : Int) : Prop := 48 ≤ x ∧ x ≤ 57
def rdNum (b : Nat → Int) (e : Nat) : Nat → Int → Nat → Int × Nat
  | 0, z, k => (z, k)
  | n + 1, z, k => if k < e ∧ dgt (b k) then rdNum b e n (z * 10 + b k - 48) (k + 1) else (z, k)
def txP (b : Nat → Int) (e : Nat) : Nat → Nat → Nat → Nat → Int → List Int × Nat × Int
  | 0, _, _, k, f => ([], k, f)
  | n + 1, m, o, k, f =>
    if m < 5 then
      ((txP b e n (m + 1) o k f).1 ++ (txP b e n (10 + m) o (txP b e n (m + 1) o k f).2.1 (txP b e n (m + 1) o k f).2.2).1, (txP b e n (10 + m) o (txP b e n (m + 1) o k f).2.1 (txP b e n (m + 1) o k f).2.2).2)
    else if m = 5 then
      (if f < 0 then
        (if k < e then
          (if 0 ≤ nmI (b k) then ([-1 - nmI (b k)], k + 1, f)
          else if dgt (b k) then ([(rdNum b e 4 0 k).1], (rdNum b e 4 0 k).2, f)
          else if o < 6 ∧ b k = 40 then
            (if (txP b e n 0 (o + 1) (k + 1) f).2.2 < 0 ∧ (txP b e n 0 (o + 1) (k + 1) f).2.1 < e ∧ b (txP b e n 0 (o + 1) (k + 1) f).2.1 = 41 then ((txP b e n 0 (o + 1) (k + 1) f).1, (txP b e n 0 (o + 1) (k + 1) f).2.1 + 1, (txP b e n 0 (o + 1) (k + 1) f).2.2)
            else ((txP b e n 0 (o + 1) (k + 1) f).1, (txP b e n 0 (o + 1) (k + 1) f).2.1, if (txP b e n 0 (o + 1) (k + 1) f).2.2 < 0 then ((txP b e n 0 (o + 1) (k + 1) f).2.1 : Int) else (txP b e n 0 (o + 1) (k + 1) f).2.2))
          else if o < 6 ∧ (b k = 33 ∨ b k = 45) then ((txP b e n 5 (o + 1) (k + 1) f).1 ++ [if b k = 45 then -126 else -33], (txP b e n 5 (o + 1) (k + 1) f).2)
          else ([], k, (k : Int)))
        else ([], k, (k : Int)))
      else ([], k, f))
    else
      (if f < 0 ∧ k < e ∧ sgn (m - 10) (b k) then
        (if m = 12 then ((txP b e n (m - 10 + 1) o (k + 1) f).1 ++ [-(b k)], (txP b e n (m - 10 + 1) o (k + 1) f).2)
        else ((txP b e n (m - 10 + 1) o (k + 1) f).1 ++ -(b k) :: (txP b e n m o (txP b e n (m - 10 + 1) o (k + 1) f).2.1 (txP b e n (m - 10 + 1) o (k + 1) f).2.2).1, (txP b e n m o (txP b e n (m - 10 + 1) o (k + 1) f).2.1 (txP b e n (m - 10 + 1) o (k + 1) f).2.2).2))
      else ([], k, f))
def txL (b : Nat → Int) (e k : Nat) (f : Int) : List Int × Nat × Int :=
  if (txP b e 2500 0 0 k f).2.2 < 0 ∧ (txP b e 2500 0 0 k f).2.1 < e ∧ b (txP b e 2500 0 0 k f).2.1 = 63 then
    ((txP b e 2500 0 0 k f).1 ++ -63 :: ((txP b e 2500 0 0 ((txP b e 2500 0 0 k f).2.1 + 1) (txP b e 2500 0 0 k f).2.2).1 ++ [-59]), (txP b e 2500 0 0 ((txP b e 2500 0 0 k f).2.1 + 1) (txP b e 2500 0 0 k f).2.2).2)
  else ((txP b e 2500 0 0 k f).1 ++ [-59], (txP b e 2500 0 0 k f).2)
def txS (b : Nat → Int) (e : Nat) : Nat → Nat → Int → List Int × Nat × Int
  | 0, k, f => ([], k, f)
  | n + 1, k, f => if (txL b e k f).2.2 < 0 ∧ (txL b e k f).2.1 < e ∧ b (txL b e k f).2.1 = 59 then ((txL b e k f).1 ++ (txS b e n ((txL b e k f).2.1 + 1) (txL b e k f).2.2).1, (txS b e n ((txL b e k f).2.1 + 1) (txL b e k f).2.2).2) else txL b e k f
/-- bounds of the numbers that mend() changes, how many there may be, where the reference keeps them -/
def lo (k : Nat) : Int := if k = 0 then 1 else if k = 2 then -1 else if k = 4 then 1 else if k = 6 then 1 else if k = 8 then 2 else if k = 9 then 1 else 0
def hi (k : Nat) : Int := if k = 0 then 9 else if k = 1 then 99 else if k = 2 then 5 else if k = 3 then 1 else if k = 4 then 9 else if k = 5 then 1 else if k = 6 then 9 else if k = 7 then 99 else if k = 8 then 30 else if k = 9 then 30 else if k = 10 then 9 else 99
def cn (k : Nat) : Nat := if k < 3 then 30 else if k < 7 then 12 else if k = 7 then 2 else 1
def atM (k n : Nat) : Nat := if k < 3 then 30 * k + n else if k < 7 then 90 + 12 * (k - 3) + n else if k = 7 then 138 + n else 140 + (k - 8)
/-- how many there are -/
def hmN (v : Nat → Nat → Int) (k : Nat) : Int := if k < 3 then 30 else if k < 5 then v 1 1 else if k < 7 then v 1 2 else if k = 7 then 2 else 1
def rlW (v : Nat → Nat → Int) : Prop := (0 ≤ v 1 1 ∧ v 1 1 ≤ 12) ∧ (0 ≤ v 1 2 ∧ v 1 2 ≤ 12) ∧ (∀ k n, k < 12 → n < cn k → lo k ≤ v (3 + k) n ∧ v (3 + k) n ≤ hi k) ∧ (v 63 6 = v 1 1 ∧ v 63 8 = v 1 2) ∧ (∀ k n : Nat, k < 12 → n < cn k → (n : Int) < hmN v k → v 64 (atM k n) = v (3 + k) n) ∧ (∀ n : Nat, (n : Int) < v 1 1 → v 68 n = v 15 n ∧ 0 ≤ v 15 n ∧ v 15 n < 30) ∧ (∀ n : Nat, (n : Int) < v 1 2 → v 69 n = v 16 n ∧ v 70 n = v 17 n ∧ (0 ≤ v 16 n ∧ v 16 n < 60) ∧ 0 ≤ v 17 n ∧ v 17 n < 60) ∧ (∀ n : Nat, n < 12 → (v 1 1 ≤ (n : Int) → v 6 n = 1 ∧ v 7 n = 1) ∧ (v 1 2 ≤ (n : Int) → v 8 n = 1 ∧ v 9 n = 1))
def rlC (v : Nat → Nat → Int) : Prop := (0 ≤ v 18 4 ∧ v 18 4 ≤ v 18 5 ∧ v 18 5 ≤ 40) ∧ (v 63 5 = v 18 4 ∧ v 63 4 = v 18 5) ∧ ∀ i : Nat, (i : Int) < v 18 5 → ∃ k n : Nat, k < 12 ∧ n < cn k ∧ (n : Int) < hmN v k ∧ v 19 i = (k : Int) ∧ v 20 i = (n : Int) ∧ v 65 i = (atM k n : Int) ∧ v 66 i = v 21 i ∧ v 67 i = v 22 i ∧ (lo k ≤ v 21 i ∧ v 21 i ≤ hi k) ∧ lo k ≤ v 22 i ∧ v 22 i ≤ hi k
def rlT (v : Nat → Nat → Int) : Prop := v 63 12 = v 23 10 ∧ (0 ≤ v 23 10 ∧ v 23 10 ≤ 120) ∧ (∀ i : Nat, (i : Int) < v 23 10 → v 71 i = v 24 i ∧ 0 ≤ v 24 i ∧ v 24 i ≤ 255) ∧ ((v 23 1 = 25 ∧ v 23 2 = 26) ∨ (v 23 1 = 26 ∧ v 23 2 = 25))
def rlL (v : Nat → Nat → Int) : Prop := (v 23 5 = 0 ∧ v 63 14 = -1) ∨ ∃ n : Nat, n ≤ 120 ∧ v 63 14 = (n : Int) ∧ (∀ i, i < n → 0 ≤ v 72 i ∧ v 72 i ≤ 255) ∧ (txS (v 72) n 130 0 (-1)).2.2 < 0 ∧ (txS (v 72) n 130 0 (-1)).2.1 = n ∧ v 23 5 = ((txS (v 72) n 130 0 (-1)).1.length : Int) ∧ ∀ (i : Nat) (z : Int), (txS (v 72) n 130 0 (-1)).1[i]? = some z → v (v 23 1).toNat i = z
def rlD (v : Nat → Nat → Int) : Prop := ((∀ i, i < 36 → v 79 i = v 42 i ∧ 0 ≤ v 42 i ∧ v 42 i ≤ 999) ∧ ∀ a, a < 6 → v 42 (7 * a) = 0) ∧ (v 0 11 = 1 → (∀ i, i < 36 → v 82 i = v 45 i ∧ 0 ≤ v 45 i ∧ v 45 i ≤ 999) ∧ ∀ a, a < 6 → v 45 (7 * a) = 0)
def rlG (v : Nat → Nat → Int) : Prop := (v 63 32 = v 47 0 ∧ v 63 33 = v 47 1 ∧ v 63 34 = v 47 2 ∧ v 63 35 = v 47 3) ∧ (0 ≤ v 47 0 ∧ v 47 0 < 60) ∧ (v 0 11 = 1 → (v 83 3 = v 48 0 ∧ v 83 0 = v 48 1 ∧ v 83 1 = v 48 2 ∧ v 83 2 = v 48 3) ∧ 0 ≤ v 48 0 ∧ v 48 0 < 60) ∧ v 63 36 = v 0 11 ∧ (v 0 11 = 0 ∨ v 0 11 = 1)
def rlB (v : Nat → Nat → Int) : Prop := (0 ≤ v 49 2 ∧ v 49 2 ≤ 50) ∧ v 63 39 = v 49 2 ∧ (∀ i : Nat, (i : Int) < v 49 2 → v 84 i = v 50 i ∧ 0 ≤ v 50 i ∧ v 50 i ≤ 7) ∧ v 63 42 = v 49 3 ∧ (0 ≤ v 49 3 ∧ v 49 3 ≤ 100000) ∧ ∀ i : Nat, (i : Int) < v 49 3 → i < 24 → v 85 i = v 51 i
/-- the elements that a sort of row may hold -/
def rng (s z : Int) : Prop := (s = 0 → -128 ≤ z ∧ z ≤ 127) ∧ (s = 1 → -32768 ≤ z ∧ z ≤ 32767) ∧ (s = 2 → -2147483648 ≤ z ∧ z ≤ 2147483647) ∧ (s = 4 → z = 0 ∨ z = 1) ∧ -9223372036854775808 ≤ z ∧ z < 9223372036854775808
def rlS (v : Nat → Nat → Int) : Prop := ∀ k, k < 6 → (-2 ≤ v 53 k ∧ v 53 k ≤ 4) ∧ (v 53 k = -1 → v 86 k = -1) ∧ (v 53 k = -2 → v 86 k = v 54 k ∧ 0 ≤ v 54 k ∧ v 54 k < v 49 2) ∧ (0 ≤ v 53 k → v 86 k = 50 + v 53 k ∧ v 87 k = v 55 k ∧ (0 ≤ v 55 k ∧ v 55 k ≤ 60) ∧ ∀ i, i < 60 → v 88 (60 * k + i) = v (57 + k) i ∧ rng (v 53 k) (v (57 + k) i))
def rlN (v : Nat → Nat → Int) : Prop := (v 63 22 = -1 ∧ v 63 23 = -1 ∧ v 63 24 = -1) ∧ ((v 38 0 = 39 ∧ v 38 1 = 40) ∨ (v 38 0 = 40 ∧ v 38 1 = 39))
def rlR (v : Nat → Nat → Int) : Prop := rlW v ∧ rlC v ∧ rlT v ∧ rlL v ∧ rlD v ∧ rlG v ∧ rlB v ∧ rlS v ∧ rlN v
/-! what each speaks of -/
def dsW (c k : Nat) : Prop := (c = 1 ∧ (k = 1 ∨ k = 2)) ∨ (3 ≤ c ∧ c ≤ 17) ∨ (c = 63 ∧ (k = 6 ∨ k = 8)) ∨ c = 64 ∨ (68 ≤ c ∧ c ≤ 70)
def dsC (c k : Nat) : Prop := (c = 1 ∧ (k = 1 ∨ k = 2)) ∨ (c = 18 ∧ (k = 4 ∨ k = 5)) ∨ (19 ≤ c ∧ c ≤ 22) ∨ (c = 63 ∧ (k = 4 ∨ k = 5)) ∨ (65 ≤ c ∧ c ≤ 67)
def dsT (c k : Nat) : Prop := (c = 23 ∧ (k = 1 ∨ k = 2 ∨ k = 10)) ∨ c = 24 ∨ (c = 63 ∧ k = 12) ∨ c = 71
def dsL (c k : Nat) : Prop := (c = 23 ∧ (k = 1 ∨ k = 2 ∨ k = 5)) ∨ c = 25 ∨ c = 26 ∨ (c = 63 ∧ k = 14) ∨ c = 72
def dsD (c k : Nat) : Prop := c = 79 ∨ c = 42 ∨ c = 82 ∨ c = 45 ∨ (c = 0 ∧ k = 11)
def dsG (c k : Nat) : Prop := (c = 63 ∧ (32 ≤ k ∧ k ≤ 36)) ∨ (c = 47 ∧ k < 4) ∨ (c = 48 ∧ k < 4) ∨ c = 83 ∨ (c = 0 ∧ k = 11)
def dsB (c k : Nat) : Prop := (c = 49 ∧ (k = 2 ∨ k = 3)) ∨ (c = 63 ∧ (k = 39 ∨ k = 42)) ∨ c = 84 ∨ c = 50 ∨ c = 85 ∨ c = 51
def dsS (c k : Nat) : Prop := (53 ≤ c ∧ c ≤ 55) ∨ (57 ≤ c ∧ c ≤ 62) ∨ c = 86 ∨ c = 87 ∨ c = 88 ∨ (c = 49 ∧ k = 2)
def dsN (c k : Nat) : Prop := (c = 63 ∧ (22 ≤ k ∧ k ≤ 24)) ∨ (c = 38 ∧ k < 2)
theorem fr_c {c : Nat} (h : ∀ k, w c k = v c k) : w c = v c := funext h
theorem rlW_cg (hc : ∀ c k, dsW c k → w c k = v c k) (h : rlW v) : rlW w := by
  have e : ∀ c k, dsW c k → w c k = v c k := hc
  unfold dsW at e
  have c64 : w 64 = v 64 := fr_c (fun k => e 64 k (by omega))
  have c68 : w 68 = v 68 := fr_c (fun k => e 68 k (by omega))
  have c69 : w 69 = v 69 := fr_c (fun k => e 69 k (by omega))
  have c70 : w 70 = v 70 := fr_c (fun k => e 70 k (by omega))
  have c6 : w 6 = v 6 := fr_c (fun k => e 6 k (by omega))
  have c7 : w 7 = v 7 := fr_c (fun k => e 7 k (by omega))
  have c8 : w 8 = v 8 := fr_c (fun k => e 8 k (by omega))
  have c9 : w 9 = v 9 := fr_c (fun k => e 9 k (by omega))
  have c15 : w 15 = v 15 := fr_c (fun k => e 15 k (by omega))
  have c16 : w 16 = v 16 := fr_c (fun k => e 16 k (by omega))
  have c17 : w 17 = v 17 := fr_c (fun k => e 17 k (by omega))
  have h1 := e 1 1 (by omega)
  have h2 := e 1 2 (by omega)
  have h3 := e 63 6 (by omega)
  have h4 := e 63 8 (by omega)
  have hh : hmN w = hmN v := by
    funext k
    unfold hmN
    rw [h1, h2]
  obtain ⟨p1, p2, p3, p4, p5, p6, p7, p8⟩ := h
  refine ⟨by rw [h1]; exact p1, by rw [h2]; exact p2, fun k n hk hn => ?_, by rw [h1, h2, h3, h4]; exact p4, fun k n hk hn hl => ?_, by rw [h1, c68, c15]; exact p6, by rw [h2, c69, c70, c16, c17]; exact p7, by rw [h1, h2, c6, c7, c8, c9]; exact p8⟩
  · rw [e (3 + k) n (by omega)]
    exact p3 k n hk hn
  · rw [hh] at hl
    rw [e (3 + k) n (by omega), c64]
    exact p5 k n hk hn hl
theorem rlC_cg (hc : ∀ c k, dsC c k → w c k = v c k) (h : rlC v) : rlC w := by
  have e : ∀ c k, dsC c k → w c k = v c k := hc
  unfold dsC at e
  have h1 := e 1 1 (by omega)
  have h2 := e 1 2 (by omega)
  have hh : hmN w = hmN v := by
    funext k
    unfold hmN
    rw [h1, h2]
  unfold rlC
  rw [hh, e 18 4 (by omega), e 18 5 (by omega), e 63 5 (by omega), e 63 4 (by omega), show w 19 = v 19 from fr_c (fun k => e 19 k (by omega)), show w 20 = v 20 from fr_c (fun k => e 20 k (by omega)), show w 21 = v 21 from fr_c (fun k => e 21 k (by omega)), show w 22 = v 22 from fr_c (fun k => e 22 k (by omega)), show w 65 = v 65 from fr_c (fun k => e 65 k (by omega)), show w 66 = v 66 from fr_c (fun k => e 66 k (by omega)), show w 67 = v 67 from fr_c (fun k => e 67 k (by omega))]
  exact h
theorem rlT_cg (hc : ∀ c k, dsT c k → w c k = v c k) (h : rlT v) : rlT w := by
  have e : ∀ c k, dsT c k → w c k = v c k := hc
  unfold dsT at e
  unfold rlT
  rw [e 23 1 (by omega), e 23 2 (by omega), e 23 10 (by omega), e 63 12 (by omega), show w 24 = v 24 from fr_c (fun k => e 24 k (by omega)), show w 71 = v 71 from fr_c (fun k => e 71 k (by omega))]
  exact h
theorem rlL_cg (hc : ∀ c k, dsL c k → w c k = v c k) (ht : rlT v) (h : rlL v) : rlL w := by
  have e : ∀ c k, dsL c k → w c k = v c k := hc
  unfold dsL at e
  have c25 : w 25 = v 25 := fr_c (fun k => e 25 k (by omega))
  have c26 : w 26 = v 26 := fr_c (fun k => e 26 k (by omega))
  have h1 := e 23 1 (by omega)
  have hs : w (w 23 1).toNat = v (v 23 1).toNat := by
    rw [h1]
    rcases ht.2.2.2 with ⟨z, -⟩ | ⟨z, -⟩
    · rw [z]; exact c25
    · rw [z]; exact c26
  unfold rlL
  rw [hs, e 23 5 (by omega), e 63 14 (by omega), show w 72 = v 72 from fr_c (fun k => e 72 k (by omega))]
  exact h
theorem rlD_cg (hc : ∀ c k, dsD c k → w c k = v c k) (h : rlD v) : rlD w := by
  have e : ∀ c k, dsD c k → w c k = v c k := hc
  unfold dsD at e
  unfold rlD
  rw [e 0 11 (by omega), show w 79 = v 79 from fr_c (fun k => e 79 k (by omega)), show w 42 = v 42 from fr_c (fun k => e 42 k (by omega)), show w 82 = v 82 from fr_c (fun k => e 82 k (by omega)), show w 45 = v 45 from fr_c (fun k => e 45 k (by omega))]
  exact h
theorem rlG_cg (hc : ∀ c k, dsG c k → w c k = v c k) (h : rlG v) : rlG w := by
  have e : ∀ c k, dsG c k → w c k = v c k := hc
  unfold dsG at e
  unfold rlG
  rw [e 63 32 (by omega), e 63 33 (by omega), e 63 34 (by omega), e 63 35 (by omega), e 63 36 (by omega), e 47 0 (by omega), e 47 1 (by omega), e 47 2 (by omega), e 47 3 (by omega), e 48 0 (by omega), e 48 1 (by omega), e 48 2 (by omega), e 48 3 (by omega), e 0 11 (by omega), show w 83 = v 83 from fr_c (fun k => e 83 k (by omega))]
  exact h
theorem rlB_cg (hc : ∀ c k, dsB c k → w c k = v c k) (h : rlB v) : rlB w := by
  have e : ∀ c k, dsB c k → w c k = v c k := hc
  unfold dsB at e
  unfold rlB
  rw [e 49 2 (by omega), e 49 3 (by omega), e 63 39 (by omega), e 63 42 (by omega), show w 84 = v 84 from fr_c (fun k => e 84 k (by omega)), show w 50 = v 50 from fr_c (fun k => e 50 k (by omega)), show w 85 = v 85 from fr_c (fun k => e 85 k (by omega)), show w 51 = v 51 from fr_c (fun k => e 51 k (by omega))]
  exact h
theorem rlS_cg (hc : ∀ c k, dsS c k → w c k = v c k) (h : rlS v) : rlS w := by
  have e : ∀ c k, dsS c k → w c k = v c k := hc
  unfold dsS at e
  intro k hk
  rw [show w (57 + k) = v (57 + k) from fr_c (fun i => e (57 + k) i (by omega)), e 49 2 (by omega), show w 53 = v 53 from fr_c (fun k => e 53 k (by omega)), show w 54 = v 54 from fr_c (fun k => e 54 k (by omega)), show w 55 = v 55 from fr_c (fun k => e 55 k (by omega)), show w 86 = v 86 from fr_c (fun k => e 86 k (by omega)), show w 87 = v 87 from fr_c (fun k => e 87 k (by omega)), show w 88 = v 88 from fr_c (fun k => e 88 k (by omega))]
  exact h k hk
theorem rlN_cg (hc : ∀ c k, dsN c k → w c k = v c k) (h : rlN v) : rlN w := by
  have e : ∀ c k, dsN c k → w c k = v c k := hc
  unfold dsN at e
  unfold rlN
  rw [e 63 22 (by omega), e 63 23 (by omega), e 63 24 (by omega), e 38 0 (by omega), e 38 1 (by omega)]
  exact h
/-- all that rlR speaks of -/
def dsR (c k : Nat) : Prop := dsW c k ∨ dsC c k ∨ dsT c k ∨ dsL c k ∨ dsD c k ∨ dsG c k ∨ dsB c k ∨ dsS c k ∨ dsN c k
theorem rlR_cg (hc : ∀ c k, dsR c k → w c k = v c k) (h : rlR v) : rlR w := by
  obtain ⟨h1, h2, h3, h4, h5, h6, h7, h8, h9⟩ := h
  unfold dsR at hc
  exact ⟨rlW_cg (fun c k q => hc c k (Or.inl q)) h1, rlC_cg (fun c k q => hc c k (Or.inr (Or.inl q))) h2, rlT_cg (fun c k q => hc c k (Or.inr (Or.inr (Or.inl q)))) h3, rlL_cg (fun c k q => hc c k (Or.inr (Or.inr (Or.inr (Or.inl q))))) h3 h4, rlD_cg (fun c k q => hc c k (Or.inr (Or.inr (Or.inr (Or.inr (Or.inl q)))))) h5, rlG_cg (fun c k q => hc c k (Or.inr (Or.inr (Or.inr (Or.inr (Or.inr (Or.inl q))))))) h6, rlB_cg (fun c k q => hc c k (Or.inr (Or.inr (Or.inr (Or.inr (Or.inr (Or.inr (Or.inl q)))))))) h7, rlS_cg (fun c k q => hc c k (Or.inr (Or.inr (Or.inr (Or.inr (Or.inr (Or.inr (Or.inr (Or.inl q))))))))) h8, rlN_cg (fun c k q => hc c k (Or.inr (Or.inr (Or.inr (Or.inr (Or.inr (Or.inr (Or.inr (Or.inr q))))))))) h9⟩
theorem rlR_fW (hw : fW v w) (h : rlR v) : rlR w := rlR_cg (fun c k q => by
  by_cases h23 : c = 23
  · subst h23
    refine hw.2 k (fun h7 => ?_)
    unfold dsR dsW dsC dsT dsL dsD dsG dsB dsS dsN at q
    omega
  · have : w c = v c := by
      refine hw.1 c h23 ?_ ?_ ?_
      · unfold dsR dsW dsC dsT dsL dsD dsG dsB dsS dsN at q
        omega
      · unfold dsR dsW dsC dsT dsL dsD dsG dsB dsS dsN at q
        omega
      · unfold dsR dsW dsC dsT dsL dsD dsG dsB dsS dsN at q
        omega
    rw [this]) h
theorem rlR_fP (hw : fP v w) (h : rlR v) : rlR w := rlR_cg (fun c k q => by
  by_cases h63 : c = 63
  · subst h63
    by_cases hk : 22 ≤ k ∧ k ≤ 24
    · have : k = 22 ∨ k = 23 ∨ k = 24 := by omega
      rcases this with rfl | rfl | rfl
      · exact hw.2.1
      · exact hw.2.2.1
      · exact hw.2.2.2
    · refine hw.1.2 k ?_
      unfold dsR dsW dsC dsT dsL dsD dsG dsB dsS dsN at q
      omega
  · have : w c = v c := by
      refine hw.1.1 c ?_
      unfold dsR dsW dsC dsT dsL dsD dsG dsB dsS dsN at q
      omega
    rw [this]) h
end RR
