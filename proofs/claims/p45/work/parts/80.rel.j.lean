/-! JOINED: 80.rel, 81.first, 82.keep, 83.opsa, 84.opsb, 85.opsc -/
section
/-! THE RELATION that every call keeps: the program's numbers against the reference's -/
section RR
variable {L : Nat} {xs : Nat → Int} {d : Nat} {v w : Nat → Nat → Int}
/-- THE TEXT, read: signs as they are worked out, the place behind, the fault -/
abbrev sgn (l : Nat) (x : Int) : Prop := (l = 0 ∧ x = 124) ∨ (l = 1 ∧ x = 38) ∨ (l = 2 ∧ (x = 60 ∨ x = 61 ∨ x = 62)) ∨ (l = 3 ∧ (x = 43 ∨ x = 45)) ∨ (l = 4 ∧ (x = 42 ∨ x = 47 ∨ x = 37))
def nmI (x : Int) : Int := if x = 116 then 0 else if x = 119 then 1 else if x = 111 then 2 else if x = 115 then 3 else if x = 121 then 4 else if x = 100 then 5 else -1
abbrev dgt (x : Int) : Prop := 48 ≤ x ∧ x ≤ 57
def rdNum (b : Nat → Int) (e : Nat) : Nat → Int → Nat → Int × Nat
  | 0, z, k => (z, k)
  | n + 1, z, k => if k < e ∧ dgt (b k) then rdNum b e n (z * 10 + b k - 48) (k + 1) else (z, k)
def txP (b : Nat → Int) (e : Nat) : Nat → Nat → Nat → Nat → Int → List Int × Nat × Int
  | 0, _, _, k, f => ([], k, f)
  | n + 1, m, o, k, f =>
    if m < 5 then
      ((txP b e n (m + 1) o k f).1 ++ (txP b e n (10 + m) o (txP b e n (m + 1) o k f).2.1 (txP b e n (m + 1) o k f).2.2).1, (txP b e n (10 + m) o (txP b e n (m + 1) o k f).2.1 (txP b e n (m + 1) o k f).2.2).2)
    else if m = 5 then
      (if f < 0 then
        (if k < e then
          (if 0 ≤ nmI (b k) then ([-1 - nmI (b k)], k + 1, f)
          else if dgt (b k) then ([(rdNum b e 4 0 k).1], (rdNum b e 4 0 k).2, f)
          else if o < 6 ∧ b k = 40 then
            (if (txP b e n 0 (o + 1) (k + 1) f).2.2 < 0 ∧ (txP b e n 0 (o + 1) (k + 1) f).2.1 < e ∧ b (txP b e n 0 (o + 1) (k + 1) f).2.1 = 41 then ((txP b e n 0 (o + 1) (k + 1) f).1, (txP b e n 0 (o + 1) (k + 1) f).2.1 + 1, (txP b e n 0 (o + 1) (k + 1) f).2.2)
            else ((txP b e n 0 (o + 1) (k + 1) f).1, (txP b e n 0 (o + 1) (k + 1) f).2.1, if (txP b e n 0 (o + 1) (k + 1) f).2.2 < 0 then ((txP b e n 0 (o + 1) (k + 1) f).2.1 : Int) else (txP b e n 0 (o + 1) (k + 1) f).2.2))
          else if o < 6 ∧ (b k = 33 ∨ b k = 45) then ((txP b e n 5 (o + 1) (k + 1) f).1 ++ [if b k = 45 then -126 else -33], (txP b e n 5 (o + 1) (k + 1) f).2)
          else ([], k, (k : Int)))
        else ([], k, (k : Int)))
      else ([], k, f))
    else
      (if f < 0 ∧ k < e ∧ sgn (m - 10) (b k) then
        (if m = 12 then ((txP b e n (m - 10 + 1) o (k + 1) f).1 ++ [-(b k)], (txP b e n (m - 10 + 1) o (k + 1) f).2)
        else ((txP b e n (m - 10 + 1) o (k + 1) f).1 ++ -(b k) :: (txP b e n m o (txP b e n (m - 10 + 1) o (k + 1) f).2.1 (txP b e n (m - 10 + 1) o (k + 1) f).2.2).1, (txP b e n m o (txP b e n (m - 10 + 1) o (k + 1) f).2.1 (txP b e n (m - 10 + 1) o (k + 1) f).2.2).2))
      else ([], k, f))
def txL (b : Nat → Int) (e k : Nat) (f : Int) : List Int × Nat × Int :=
  if (txP b e 2500 0 0 k f).2.2 < 0 ∧ (txP b e 2500 0 0 k f).2.1 < e ∧ b (txP b e 2500 0 0 k f).2.1 = 63 then
    ((txP b e 2500 0 0 k f).1 ++ -63 :: ((txP b e 2500 0 0 ((txP b e 2500 0 0 k f).2.1 + 1) (txP b e 2500 0 0 k f).2.2).1 ++ [-59]), (txP b e 2500 0 0 ((txP b e 2500 0 0 k f).2.1 + 1) (txP b e 2500 0 0 k f).2.2).2)
  else ((txP b e 2500 0 0 k f).1 ++ [-59], (txP b e 2500 0 0 k f).2)
def txS (b : Nat → Int) (e : Nat) : Nat → Nat → Int → List Int × Nat × Int
  | 0, k, f => ([], k, f)
  | n + 1, k, f => if (txL b e k f).2.2 < 0 ∧ (txL b e k f).2.1 < e ∧ b (txL b e k f).2.1 = 59 then ((txL b e k f).1 ++ (txS b e n ((txL b e k f).2.1 + 1) (txL b e k f).2.2).1, (txS b e n ((txL b e k f).2.1 + 1) (txL b e k f).2.2).2) else txL b e k f
/-- bounds of the numbers that mend() changes, how many there may be, where the reference keeps them -/
def lo (k : Nat) : Int := if k = 0 then 1 else if k = 2 then -1 else if k = 4 then 1 else if k = 6 then 1 else if k = 8 then 2 else if k = 9 then 1 else 0
def hi (k : Nat) : Int := if k = 0 then 9 else if k = 1 then 99 else if k = 2 then 5 else if k = 3 then 1 else if k = 4 then 9 else if k = 5 then 1 else if k = 6 then 9 else if k = 7 then 99 else if k = 8 then 30 else if k = 9 then 30 else if k = 10 then 9 else 99
def cn (k : Nat) : Nat := if k < 3 then 30 else if k < 7 then 12 else if k = 7 then 2 else 1
def atM (k n : Nat) : Nat := if k < 3 then 30 * k + n else if k < 7 then 90 + 12 * (k - 3) + n else if k = 7 then 138 + n else 140 + (k - 8)
/-- how many there are -/
def hmN (v : Nat → Nat → Int) (k : Nat) : Int := if k < 3 then 30 else if k < 5 then v 1 1 else if k < 7 then v 1 2 else if k = 7 then 2 else 1
def rlW (v : Nat → Nat → Int) : Prop := (0 ≤ v 1 1 ∧ v 1 1 ≤ 12) ∧ (0 ≤ v 1 2 ∧ v 1 2 ≤ 12) ∧ (∀ k n, k < 12 → n < cn k → lo k ≤ v (3 + k) n ∧ v (3 + k) n ≤ hi k) ∧ (v 63 6 = v 1 1 ∧ v 63 8 = v 1 2) ∧ (∀ k n : Nat, k < 12 → n < cn k → (n : Int) < hmN v k → v 64 (atM k n) = v (3 + k) n) ∧ (∀ n : Nat, (n : Int) < v 1 1 → v 68 n = v 15 n ∧ 0 ≤ v 15 n ∧ v 15 n < 30) ∧ (∀ n : Nat, (n : Int) < v 1 2 → v 69 n = v 16 n ∧ v 70 n = v 17 n ∧ (0 ≤ v 16 n ∧ v 16 n < 60) ∧ 0 ≤ v 17 n ∧ v 17 n < 60) ∧ (∀ n : Nat, n < 12 → (v 1 1 ≤ (n : Int) → v 6 n = 1 ∧ v 7 n = 1) ∧ (v 1 2 ≤ (n : Int) → v 8 n = 1 ∧ v 9 n = 1))
def rlC (v : Nat → Nat → Int) : Prop := (0 ≤ v 18 4 ∧ v 18 4 ≤ v 18 5 ∧ v 18 5 ≤ 40) ∧ (v 63 5 = v 18 4 ∧ v 63 4 = v 18 5) ∧ ∀ i : Nat, (i : Int) < v 18 5 → ∃ k n : Nat, k < 12 ∧ n < cn k ∧ (n : Int) < hmN v k ∧ v 19 i = (k : Int) ∧ v 20 i = (n : Int) ∧ v 65 i = (atM k n : Int) ∧ v 66 i = v 21 i ∧ v 67 i = v 22 i ∧ (lo k ≤ v 21 i ∧ v 21 i ≤ hi k) ∧ lo k ≤ v 22 i ∧ v 22 i ≤ hi k
def rlT (v : Nat → Nat → Int) : Prop := v 63 12 = v 23 10 ∧ (0 ≤ v 23 10 ∧ v 23 10 ≤ 120) ∧ (∀ i : Nat, (i : Int) < v 23 10 → v 71 i = v 24 i ∧ 0 ≤ v 24 i ∧ v 24 i ≤ 255) ∧ ((v 23 1 = 25 ∧ v 23 2 = 26) ∨ (v 23 1 = 26 ∧ v 23 2 = 25))
def rlL (v : Nat → Nat → Int) : Prop := (v 23 5 = 0 ∧ v 63 14 = -1) ∨ ∃ n : Nat, n ≤ 120 ∧ v 63 14 = (n : Int) ∧ (∀ i, i < n → 0 ≤ v 72 i ∧ v 72 i ≤ 255) ∧ (txS (v 72) n 130 0 (-1)).2.2 < 0 ∧ (txS (v 72) n 130 0 (-1)).2.1 = n ∧ v 23 5 = ((txS (v 72) n 130 0 (-1)).1.length : Int) ∧ ∀ (i : Nat) (z : Int), (txS (v 72) n 130 0 (-1)).1[i]? = some z → v (v 23 1).toNat i = z
def rlD (v : Nat → Nat → Int) : Prop := ((∀ i, i < 36 → v 79 i = v 42 i ∧ 0 ≤ v 42 i ∧ v 42 i ≤ 999) ∧ ∀ a, a < 6 → v 42 (7 * a) = 0) ∧ (v 0 11 = 1 → (∀ i, i < 36 → v 82 i = v 45 i ∧ 0 ≤ v 45 i ∧ v 45 i ≤ 999) ∧ ∀ a, a < 6 → v 45 (7 * a) = 0)
def rlG (v : Nat → Nat → Int) : Prop := (v 63 32 = v 47 0 ∧ v 63 33 = v 47 1 ∧ v 63 34 = v 47 2 ∧ v 63 35 = v 47 3) ∧ (0 ≤ v 47 0 ∧ v 47 0 < 60) ∧ (v 0 11 = 1 → (v 83 3 = v 48 0 ∧ v 83 0 = v 48 1 ∧ v 83 1 = v 48 2 ∧ v 83 2 = v 48 3) ∧ 0 ≤ v 48 0 ∧ v 48 0 < 60) ∧ v 63 36 = v 0 11 ∧ (v 0 11 = 0 ∨ v 0 11 = 1)
def rlB (v : Nat → Nat → Int) : Prop := (0 ≤ v 49 2 ∧ v 49 2 ≤ 50) ∧ v 63 39 = v 49 2 ∧ (∀ i : Nat, (i : Int) < v 49 2 → v 84 i = v 50 i ∧ 0 ≤ v 50 i ∧ v 50 i ≤ 7) ∧ v 63 42 = v 49 3 ∧ (0 ≤ v 49 3 ∧ v 49 3 ≤ 100000) ∧ ∀ i : Nat, (i : Int) < v 49 3 → i < 24 → v 85 i = v 51 i
/-- the elements that a sort of row may hold -/
def rng (s z : Int) : Prop := (s = 0 → -128 ≤ z ∧ z ≤ 127) ∧ (s = 1 → -32768 ≤ z ∧ z ≤ 32767) ∧ (s = 2 → -2147483648 ≤ z ∧ z ≤ 2147483647) ∧ (s = 4 → z = 0 ∨ z = 1) ∧ -9223372036854775808 ≤ z ∧ z < 9223372036854775808
def rlS (v : Nat → Nat → Int) : Prop := ∀ k, k < 6 → (-2 ≤ v 53 k ∧ v 53 k ≤ 4) ∧ (v 53 k = -1 → v 86 k = -1) ∧ (v 53 k = -2 → v 86 k = v 54 k ∧ 0 ≤ v 54 k ∧ v 54 k < v 49 2) ∧ (0 ≤ v 53 k → v 86 k = 50 + v 53 k ∧ v 87 k = v 55 k ∧ (0 ≤ v 55 k ∧ v 55 k ≤ 60) ∧ ∀ i, i < 60 → v 88 (60 * k + i) = v (57 + k) i ∧ rng (v 53 k) (v (57 + k) i))
def rlN (v : Nat → Nat → Int) : Prop := (v 63 22 = -1 ∧ v 63 23 = -1 ∧ v 63 24 = -1) ∧ ((v 38 0 = 39 ∧ v 38 1 = 40) ∨ (v 38 0 = 40 ∧ v 38 1 = 39))
def rlR (v : Nat → Nat → Int) : Prop := rlW v ∧ rlC v ∧ rlT v ∧ rlL v ∧ rlD v ∧ rlG v ∧ rlB v ∧ rlS v ∧ rlN v
/-! what each speaks of -/
def dsW (c k : Nat) : Prop := (c = 1 ∧ (k = 1 ∨ k = 2)) ∨ (3 ≤ c ∧ c ≤ 17) ∨ (c = 63 ∧ (k = 6 ∨ k = 8)) ∨ c = 64 ∨ (68 ≤ c ∧ c ≤ 70)
def dsC (c k : Nat) : Prop := (c = 1 ∧ (k = 1 ∨ k = 2)) ∨ (c = 18 ∧ (k = 4 ∨ k = 5)) ∨ (19 ≤ c ∧ c ≤ 22) ∨ (c = 63 ∧ (k = 4 ∨ k = 5)) ∨ (65 ≤ c ∧ c ≤ 67)
def dsT (c k : Nat) : Prop := (c = 23 ∧ (k = 1 ∨ k = 2 ∨ k = 10)) ∨ c = 24 ∨ (c = 63 ∧ k = 12) ∨ c = 71
def dsL (c k : Nat) : Prop := (c = 23 ∧ (k = 1 ∨ k = 2 ∨ k = 5)) ∨ c = 25 ∨ c = 26 ∨ (c = 63 ∧ k = 14) ∨ c = 72
def dsD (c k : Nat) : Prop := c = 79 ∨ c = 42 ∨ c = 82 ∨ c = 45 ∨ (c = 0 ∧ k = 11)
def dsG (c k : Nat) : Prop := (c = 63 ∧ (32 ≤ k ∧ k ≤ 36)) ∨ (c = 47 ∧ k < 4) ∨ (c = 48 ∧ k < 4) ∨ c = 83 ∨ (c = 0 ∧ k = 11)
def dsB (c k : Nat) : Prop := (c = 49 ∧ (k = 2 ∨ k = 3)) ∨ (c = 63 ∧ (k = 39 ∨ k = 42)) ∨ c = 84 ∨ c = 50 ∨ c = 85 ∨ c = 51
def dsS (c k : Nat) : Prop := (53 ≤ c ∧ c ≤ 55) ∨ (57 ≤ c ∧ c ≤ 62) ∨ c = 86 ∨ c = 87 ∨ c = 88 ∨ (c = 49 ∧ k = 2)
def dsN (c k : Nat) : Prop := (c = 63 ∧ (22 ≤ k ∧ k ≤ 24)) ∨ (c = 38 ∧ k < 2)
theorem fr_c {c : Nat} (h : ∀ k, w c k = v c k) : w c = v c := funext h
theorem rlW_cg (hc : ∀ c k, dsW c k → w c k = v c k) (h : rlW v) : rlW w := by
  have e : ∀ c k, dsW c k → w c k = v c k := hc
  unfold dsW at e
  have c64 : w 64 = v 64 := fr_c (fun k => e 64 k (by omega))
  have c68 : w 68 = v 68 := fr_c (fun k => e 68 k (by omega))
  have c69 : w 69 = v 69 := fr_c (fun k => e 69 k (by omega))
  have c70 : w 70 = v 70 := fr_c (fun k => e 70 k (by omega))
  have c6 : w 6 = v 6 := fr_c (fun k => e 6 k (by omega))
  have c7 : w 7 = v 7 := fr_c (fun k => e 7 k (by omega))
  have c8 : w 8 = v 8 := fr_c (fun k => e 8 k (by omega))
  have c9 : w 9 = v 9 := fr_c (fun k => e 9 k (by omega))
  have c15 : w 15 = v 15 := fr_c (fun k => e 15 k (by omega))
  have c16 : w 16 = v 16 := fr_c (fun k => e 16 k (by omega))
  have c17 : w 17 = v 17 := fr_c (fun k => e 17 k (by omega))
  have h1 := e 1 1 (by omega)
  have h2 := e 1 2 (by omega)
  have h3 := e 63 6 (by omega)
  have h4 := e 63 8 (by omega)
  have hh : hmN w = hmN v := by
    funext k
    unfold hmN
    rw [h1, h2]
  obtain ⟨p1, p2, p3, p4, p5, p6, p7, p8⟩ := h
  refine ⟨by rw [h1]; exact p1, by rw [h2]; exact p2, fun k n hk hn => ?_, by rw [h1, h2, h3, h4]; exact p4, fun k n hk hn hl => ?_, by rw [h1, c68, c15]; exact p6, by rw [h2, c69, c70, c16, c17]; exact p7, by rw [h1, h2, c6, c7, c8, c9]; exact p8⟩
  · rw [e (3 + k) n (by omega)]
    exact p3 k n hk hn
  · rw [hh] at hl
    rw [e (3 + k) n (by omega), c64]
    exact p5 k n hk hn hl
theorem rlC_cg (hc : ∀ c k, dsC c k → w c k = v c k) (h : rlC v) : rlC w := by
  have e : ∀ c k, dsC c k → w c k = v c k := hc
  unfold dsC at e
  have h1 := e 1 1 (by omega)
  have h2 := e 1 2 (by omega)
  have hh : hmN w = hmN v := by
    funext k
    unfold hmN
    rw [h1, h2]
  unfold rlC
  rw [hh, e 18 4 (by omega), e 18 5 (by omega), e 63 5 (by omega), e 63 4 (by omega), show w 19 = v 19 from fr_c (fun k => e 19 k (by omega)), show w 20 = v 20 from fr_c (fun k => e 20 k (by omega)), show w 21 = v 21 from fr_c (fun k => e 21 k (by omega)), show w 22 = v 22 from fr_c (fun k => e 22 k (by omega)), show w 65 = v 65 from fr_c (fun k => e 65 k (by omega)), show w 66 = v 66 from fr_c (fun k => e 66 k (by omega)), show w 67 = v 67 from fr_c (fun k => e 67 k (by omega))]
  exact h
theorem rlT_cg (hc : ∀ c k, dsT c k → w c k = v c k) (h : rlT v) : rlT w := by
  have e : ∀ c k, dsT c k → w c k = v c k := hc
  unfold dsT at e
  unfold rlT
  rw [e 23 1 (by omega), e 23 2 (by omega), e 23 10 (by omega), e 63 12 (by omega), show w 24 = v 24 from fr_c (fun k => e 24 k (by omega)), show w 71 = v 71 from fr_c (fun k => e 71 k (by omega))]
  exact h
theorem rlL_cg (hc : ∀ c k, dsL c k → w c k = v c k) (ht : rlT v) (h : rlL v) : rlL w := by
  have e : ∀ c k, dsL c k → w c k = v c k := hc
  unfold dsL at e
  have c25 : w 25 = v 25 := fr_c (fun k => e 25 k (by omega))
  have c26 : w 26 = v 26 := fr_c (fun k => e 26 k (by omega))
  have h1 := e 23 1 (by omega)
  have hs : w (w 23 1).toNat = v (v 23 1).toNat := by
    rw [h1]
    rcases ht.2.2.2 with ⟨z, -⟩ | ⟨z, -⟩
    · rw [z]; exact c25
    · rw [z]; exact c26
  unfold rlL
  rw [hs, e 23 5 (by omega), e 63 14 (by omega), show w 72 = v 72 from fr_c (fun k => e 72 k (by omega))]
  exact h
theorem rlD_cg (hc : ∀ c k, dsD c k → w c k = v c k) (h : rlD v) : rlD w := by
  have e : ∀ c k, dsD c k → w c k = v c k := hc
  unfold dsD at e
  unfold rlD
  rw [e 0 11 (by omega), show w 79 = v 79 from fr_c (fun k => e 79 k (by omega)), show w 42 = v 42 from fr_c (fun k => e 42 k (by omega)), show w 82 = v 82 from fr_c (fun k => e 82 k (by omega)), show w 45 = v 45 from fr_c (fun k => e 45 k (by omega))]
  exact h
theorem rlG_cg (hc : ∀ c k, dsG c k → w c k = v c k) (h : rlG v) : rlG w := by
  have e : ∀ c k, dsG c k → w c k = v c k := hc
  unfold dsG at e
  unfold rlG
  rw [e 63 32 (by omega), e 63 33 (by omega), e 63 34 (by omega), e 63 35 (by omega), e 63 36 (by omega), e 47 0 (by omega), e 47 1 (by omega), e 47 2 (by omega), e 47 3 (by omega), e 48 0 (by omega), e 48 1 (by omega), e 48 2 (by omega), e 48 3 (by omega), e 0 11 (by omega), show w 83 = v 83 from fr_c (fun k => e 83 k (by omega))]
  exact h
theorem rlB_cg (hc : ∀ c k, dsB c k → w c k = v c k) (h : rlB v) : rlB w := by
  have e : ∀ c k, dsB c k → w c k = v c k := hc
  unfold dsB at e
  unfold rlB
  rw [e 49 2 (by omega), e 49 3 (by omega), e 63 39 (by omega), e 63 42 (by omega), show w 84 = v 84 from fr_c (fun k => e 84 k (by omega)), show w 50 = v 50 from fr_c (fun k => e 50 k (by omega)), show w 85 = v 85 from fr_c (fun k => e 85 k (by omega)), show w 51 = v 51 from fr_c (fun k => e 51 k (by omega))]
  exact h
theorem rlS_cg (hc : ∀ c k, dsS c k → w c k = v c k) (h : rlS v) : rlS w := by
  have e : ∀ c k, dsS c k → w c k = v c k := hc
  unfold dsS at e
  intro k hk
  rw [show w (57 + k) = v (57 + k) from fr_c (fun i => e (57 + k) i (by omega)), e 49 2 (by omega), show w 53 = v 53 from fr_c (fun k => e 53 k (by omega)), show w 54 = v 54 from fr_c (fun k => e 54 k (by omega)), show w 55 = v 55 from fr_c (fun k => e 55 k (by omega)), show w 86 = v 86 from fr_c (fun k => e 86 k (by omega)), show w 87 = v 87 from fr_c (fun k => e 87 k (by omega)), show w 88 = v 88 from fr_c (fun k => e 88 k (by omega))]
  exact h k hk
theorem rlN_cg (hc : ∀ c k, dsN c k → w c k = v c k) (h : rlN v) : rlN w := by
  have e : ∀ c k, dsN c k → w c k = v c k := hc
  unfold dsN at e
  unfold rlN
  rw [e 63 22 (by omega), e 63 23 (by omega), e 63 24 (by omega), e 38 0 (by omega), e 38 1 (by omega)]
  exact h
/-- all that rlR speaks of -/
def dsR (c k : Nat) : Prop := dsW c k ∨ dsC c k ∨ dsT c k ∨ dsL c k ∨ dsD c k ∨ dsG c k ∨ dsB c k ∨ dsS c k ∨ dsN c k
theorem rlR_cg (hc : ∀ c k, dsR c k → w c k = v c k) (h : rlR v) : rlR w := by
  obtain ⟨h1, h2, h3, h4, h5, h6, h7, h8, h9⟩ := h
  unfold dsR at hc
  exact ⟨rlW_cg (fun c k q => hc c k (Or.inl q)) h1, rlC_cg (fun c k q => hc c k (Or.inr (Or.inl q))) h2, rlT_cg (fun c k q => hc c k (Or.inr (Or.inr (Or.inl q)))) h3, rlL_cg (fun c k q => hc c k (Or.inr (Or.inr (Or.inr (Or.inl q))))) h3 h4, rlD_cg (fun c k q => hc c k (Or.inr (Or.inr (Or.inr (Or.inr (Or.inl q)))))) h5, rlG_cg (fun c k q => hc c k (Or.inr (Or.inr (Or.inr (Or.inr (Or.inr (Or.inl q))))))) h6, rlB_cg (fun c k q => hc c k (Or.inr (Or.inr (Or.inr (Or.inr (Or.inr (Or.inr (Or.inl q)))))))) h7, rlS_cg (fun c k q => hc c k (Or.inr (Or.inr (Or.inr (Or.inr (Or.inr (Or.inr (Or.inr (Or.inl q))))))))) h8, rlN_cg (fun c k q => hc c k (Or.inr (Or.inr (Or.inr (Or.inr (Or.inr (Or.inr (Or.inr (Or.inr q))))))))) h9⟩
theorem rlR_fW (hw : fW v w) (h : rlR v) : rlR w := rlR_cg (fun c k q => by
  by_cases h23 : c = 23
  · subst h23
    refine hw.2 k (fun h7 => ?_)
    unfold dsR dsW dsC dsT dsL dsD dsG dsB dsS dsN at q
    omega
  · have : w c = v c := by
      refine hw.1 c h23 ?_ ?_ ?_
      · unfold dsR dsW dsC dsT dsL dsD dsG dsB dsS dsN at q
        omega
      · unfold dsR dsW dsC dsT dsL dsD dsG dsB dsS dsN at q
        omega
      · unfold dsR dsW dsC dsT dsL dsD dsG dsB dsS dsN at q
        omega
    rw [this]) h
theorem rlR_fP (hw : fP v w) (h : rlR v) : rlR w := rlR_cg (fun c k q => by
  by_cases h63 : c = 63
  · subst h63
    by_cases hk : 22 ≤ k ∧ k ≤ 24
    · have : k = 22 ∨ k = 23 ∨ k = 24 := by omega
      rcases this with rfl | rfl | rfl
      · exact hw.2.1
      · exact hw.2.2.1
      · exact hw.2.2.2
    · refine hw.1.2 k ?_
      unfold dsR dsW dsC dsT dsL dsD dsG dsB dsS dsN at q
      omega
  · have : w c = v c := by
      refine hw.1.1 c ?_
      unfold dsR dsW dsC dsT dsL dsD dsG dsB dsS dsN at q
      omega
    rw [this]) h
end RR
end
section
/-! THE RELATION at the first state; what the ways want out of it (written by wip/p1/81.first.py) -/
section FI
variable {L : Nat} {xs : Nat → Int} {d : Nat} {v : Nat → Nat → Int}
theorem k12 {k : Nat} (h : k < 12) : k = 0 ∨ k = 1 ∨ k = 2 ∨ k = 3 ∨ k = 4 ∨ k = 5 ∨ k = 6 ∨ k = 7 ∨ k = 8 ∨ k = 9 ∨ k = 10 ∨ k = 11 := by omega
theorem fr_rlW (h : Fresh v) : rlW v := by
  have m := M0_of h
  have h1 := f_1_1 h
  have h2 := f_1_2 h
  refine ⟨by omega, by omega, fun k n hk hn => ?_, ⟨by rw [h1, g_63_6 m], by rw [h2, g_63_8 m]⟩, fun k n hk hn hl => ?_, fun n hn => by omega, fun n hn => by omega, fun n hn => ⟨fun _ => ⟨f_6_0_r h n (by omega) (by omega), f_7_0_r h n (by omega) (by omega)⟩, fun _ => ⟨f_8_0_r h n (by omega) (by omega), f_9_0_r h n (by omega) (by omega)⟩⟩⟩
  · have hn2 : n < 30 := by
      rcases k12 hk with rfl | rfl | rfl | rfl | rfl | rfl | rfl | rfl | rfl | rfl | rfl | rfl <;> exact Nat.lt_of_lt_of_le hn (by decide)
    rcases k12 hk with rfl | rfl | rfl | rfl | rfl | rfl | rfl | rfl | rfl | rfl | rfl | rfl
    · show lo 0 ≤ v 3 n ∧ v 3 n ≤ hi 0
      rw [f_3_0_r h n (by omega) (by omega)]
      decide
    · show lo 1 ≤ v 4 n ∧ v 4 n ≤ hi 1
      rw [f_4_0_r h n (by omega) (by omega)]
      decide
    · show lo 2 ≤ v 5 n ∧ v 5 n ≤ hi 2
      rw [f_5_0_r h n (by omega) (by omega)]
      decide
    · show lo 3 ≤ v 6 n ∧ v 6 n ≤ hi 3
      rw [f_6_0_r h n (by omega) (by omega)]
      decide
    · show lo 4 ≤ v 7 n ∧ v 7 n ≤ hi 4
      rw [f_7_0_r h n (by omega) (by omega)]
      decide
    · show lo 5 ≤ v 8 n ∧ v 8 n ≤ hi 5
      rw [f_8_0_r h n (by omega) (by omega)]
      decide
    · show lo 6 ≤ v 9 n ∧ v 9 n ≤ hi 6
      rw [f_9_0_r h n (by omega) (by omega)]
      decide
    · show lo 7 ≤ v 10 n ∧ v 10 n ≤ hi 7
      rw [f_10_0_r h n (by omega) (by omega)]
      decide
    · show lo 8 ≤ v 11 n ∧ v 11 n ≤ hi 8
      rw [f_11_0_r h n (by omega) (by omega)]
      decide
    · show lo 9 ≤ v 12 n ∧ v 12 n ≤ hi 9
      rw [f_12_0_r h n (by omega) (by omega)]
      decide
    · show lo 10 ≤ v 13 n ∧ v 13 n ≤ hi 10
      rw [f_13_0_r h n (by omega) (by omega)]
      decide
    · show lo 11 ≤ v 14 n ∧ v 14 n ≤ hi 11
      rw [f_14_0_r h n (by omega) (by omega)]
      decide
  · rcases k12 hk with rfl | rfl | rfl | rfl | rfl | rfl | rfl | rfl | rfl | rfl | rfl | rfl
    · have hn2 : n < 30 := hn
      show v 64 (30 * 0 + n) = v 3 n
      rw [f_3_0_r h n (by omega) (by omega), g_64_0_r m (30 * 0 + n) (by omega) (by omega)]
    · have hn2 : n < 30 := hn
      show v 64 (30 * 1 + n) = v 4 n
      rw [f_4_0_r h n (by omega) (by omega), g_64_30_r m (30 * 1 + n) (by omega) (by omega)]
    · have hn2 : n < 30 := hn
      show v 64 (30 * 2 + n) = v 5 n
      rw [f_5_0_r h n (by omega) (by omega), g_64_60_r m (30 * 2 + n) (by omega) (by omega)]
    · have q : (n : Int) < v 1 1 := hl
      omega
    · have q : (n : Int) < v 1 1 := hl
      omega
    · have q : (n : Int) < v 1 2 := hl
      omega
    · have q : (n : Int) < v 1 2 := hl
      omega
    · have hn2 : n < 2 := hn
      show v 64 (138 + n) = v 10 n
      rw [f_10_0_r h n (by omega) (by omega), g_64_138_r m (138 + n) (by omega) (by omega)]
    · have hn2 : n < 1 := hn
      have hn3 : n = 0 := by omega
      subst hn3
      show v 64 140 = v 11 0
      rw [f_11_0 h, g_64_140 m]
    · have hn2 : n < 1 := hn
      have hn3 : n = 0 := by omega
      subst hn3
      show v 64 141 = v 12 0
      rw [f_12_0 h, g_64_141 m]
    · have hn2 : n < 1 := hn
      have hn3 : n = 0 := by omega
      subst hn3
      show v 64 142 = v 13 0
      rw [f_13_0 h, g_64_142 m]
    · have hn2 : n < 1 := hn
      have hn3 : n = 0 := by omega
      subst hn3
      show v 64 143 = v 14 0
      rw [f_14_0 h, g_64_143 m]
theorem fr_rlR (h : Fresh v) : rlR v := by
  have m := M0_of h
  refine ⟨fr_rlW h, ?_, ?_, ?_, ?_, ?_, ?_, ?_, ⟨⟨g_63_22 m, g_63_23 m, g_63_24 m⟩, Or.inl ⟨f_38_0 h, f_38_1 h⟩⟩⟩
  · have a := f_18_4 h
    have b := f_18_5 h
    refine ⟨by omega, ⟨by rw [a, g_63_5 m], by rw [b, g_63_4 m]⟩, fun i hi => by omega⟩
  · have a := f_23_10 h
    refine ⟨by rw [a, g_63_12 m], by omega, fun i hi => by omega, Or.inl ⟨f_23_1 h, f_23_2 h⟩⟩
  · exact Or.inl ⟨f_23_5 h, g_63_14 m⟩
  · have c := f_0_11 h
    refine ⟨⟨fun i hi => ?_, fun a ha => ?_⟩, fun q => by omega⟩
    · rw [g_79_0_r m i (by omega) (by omega), f_42_0_r h i (by omega) (by omega)]
      omega
    · exact f_42_0_r h (7 * a) (by omega) (by omega)
  · have a0 := f_47_0 h
    have a1 := f_47_1 h
    have a2 := f_47_2 h
    have a3 := f_47_3 h
    have c := f_0_11 h
    refine ⟨⟨by rw [a0, g_63_32 m], by rw [a1, g_63_33 m], by rw [a2, g_63_34 m], by rw [a3, g_63_35 m]⟩, by omega, fun q => by omega, by rw [c, g_63_36 m], by omega⟩
  · have a := f_49_2 h
    have b := f_49_3 h
    refine ⟨by omega, by rw [a, g_63_39 m], fun i hi => by omega, by rw [b, g_63_42 m], by omega, fun i hi => by omega⟩
  · intro k hk
    have a := f_53_0_r h k (by omega) (by omega)
    refine ⟨by omega, fun _ => g_86_0_r m k (by omega) (by omega), fun q => by omega, fun q => by omega⟩
/-- the place of a number, by what it is -/
theorem rW_k (h : rlW v) (k n : Nat) (hk : k < 12) (hn : n < cn k) : lo k ≤ v (3 + k) n ∧ v (3 + k) n ≤ hi k := h.2.2.1 k n hk hn
theorem rW_t (h : rlW v) (y : Nat) (hy : y < 30) : 1 ≤ v 3 y ∧ v 3 y ≤ 9 := rW_k h 0 y (by omega) hy
theorem rW_w (h : rlW v) (y : Nat) (hy : y < 30) : 0 ≤ v 4 y ∧ v 4 y ≤ 99 := rW_k h 1 y (by omega) hy
theorem rW_hd (h : rlW v) (i : Nat) (hi : i < 12) : 1 ≤ v 7 i ∧ v 7 i ≤ 9 := rW_k h 4 i (by omega) hi
theorem rW_lw (h : rlW v) (i : Nat) (hi : i < 12) : 1 ≤ v 9 i ∧ v 9 i ≤ 9 := rW_k h 6 i (by omega) hi
theorem rW_r (h : rlW v) (i : Nat) (hi : i < 2) : 0 ≤ v 10 i ∧ v 10 i ≤ 99 := rW_k h 7 i (by omega) hi
theorem rW_L (h : rlW v) : 2 ≤ v 11 0 ∧ v 11 0 ≤ 30 := rW_k h 8 0 (by omega) (by decide)
theorem rW_T (h : rlW v) : 1 ≤ v 12 0 ∧ v 12 0 ≤ 30 := rW_k h 9 0 (by omega) (by decide)
theorem rW_C (h : rlW v) : 0 ≤ v 13 0 ∧ v 13 0 ≤ 9 := rW_k h 10 0 (by omega) (by decide)
theorem rW_R (h : rlW v) : 0 ≤ v 14 0 ∧ v 14 0 ≤ 99 := rW_k h 11 0 (by omega) (by decide)
theorem rM_t (h : rlW v) (y : Nat) (hy : y < 30) : v 64 y = v 3 y := by
  have := h.2.2.2.2.1 0 y (by omega) hy (by show (y : Int) < 30; omega)
  rw [show atM 0 y = y by show 30 * 0 + y = y; omega] at this
  exact this
theorem rM_w (h : rlW v) (y : Nat) (hy : y < 30) : v 64 (30 + y) = v 4 y := h.2.2.2.2.1 1 y (by omega) hy (by show (y : Int) < 30; omega)
theorem rM_o (h : rlW v) (y : Nat) (hy : y < 30) : v 64 (60 + y) = v 5 y := h.2.2.2.2.1 2 y (by omega) hy (by show (y : Int) < 30; omega)
theorem rM_ho (h : rlW v) (i : Nat) (hi : (i : Int) < v 1 1) : v 64 (90 + i) = v 6 i := by
  have h1 := h.1
  have := h.2.2.2.2.1 3 i (by omega) (by show i < 12; omega) hi
  exact this
theorem rM_hd (h : rlW v) (i : Nat) (hi : (i : Int) < v 1 1) : v 64 (102 + i) = v 7 i := by
  have h1 := h.1
  have := h.2.2.2.2.1 4 i (by omega) (by show i < 12; omega) hi
  exact this
theorem rM_lo (h : rlW v) (i : Nat) (hi : (i : Int) < v 1 2) : v 64 (114 + i) = v 8 i := by
  have h1 := h.2.1
  have := h.2.2.2.2.1 5 i (by omega) (by show i < 12; omega) hi
  exact this
theorem rM_lw (h : rlW v) (i : Nat) (hi : (i : Int) < v 1 2) : v 64 (126 + i) = v 9 i := by
  have h1 := h.2.1
  have := h.2.2.2.2.1 6 i (by omega) (by show i < 12; omega) hi
  exact this
theorem rM_r (h : rlW v) (i : Nat) (hi : i < 2) : v 64 (138 + i) = v 10 i := h.2.2.2.2.1 7 i (by omega) hi (by show (i : Int) < 2; omega)
theorem rM_L (h : rlW v) : v 64 140 = v 11 0 := h.2.2.2.2.1 8 0 (by omega) (by decide) (by show ((0 : Nat) : Int) < 1; omega)
theorem rM_T (h : rlW v) : v 64 141 = v 12 0 := h.2.2.2.2.1 9 0 (by omega) (by decide) (by show ((0 : Nat) : Int) < 1; omega)
theorem rM_C (h : rlW v) : v 64 142 = v 13 0 := h.2.2.2.2.1 10 0 (by omega) (by decide) (by show ((0 : Nat) : Int) < 1; omega)
theorem rM_R (h : rlW v) : v 64 143 = v 14 0 := h.2.2.2.2.1 11 0 (by omega) (by decide) (by show ((0 : Nat) : Int) < 1; omega)
theorem rW_WW (h : rlW v) : WW v := ⟨rW_L h, h.1, h.2.1, fun i hi => ⟨rW_hd h i hi, rW_lw h i hi⟩, rW_r h 0 (by omega), rW_r h 1 (by omega)⟩
theorem rW_CW (h : rlW v) : CW v := ⟨⟨rM_L h, h.2.2.2.1.1, h.2.2.2.1.2, rM_r h 0 (by omega), rM_r h 1 (by omega)⟩, fun i hi => ⟨(h.2.2.2.2.2.1 i hi).1, rM_ho h i hi, rM_hd h i hi⟩, fun i hi => ⟨(h.2.2.2.2.2.2.1 i hi).1, (h.2.2.2.2.2.2.1 i hi).2.1, rM_lo h i hi, rM_lw h i hi⟩⟩
theorem rW_WN (h : rlW v) : WN v := ⟨rW_L h, fun y hy => rW_t h y hy, rW_T h⟩
theorem rW_CN (h : rlW v) : CN v := ⟨rM_L h, fun y hy => rM_t h y hy, rM_T h⟩
/-- both answer, alike, and the relation is kept -/
def opR (L : Nat) (xs : Nat → Int) (v : Nat → Nat → Int) (y1 y2 t : Nat) (as : List pm_V) : Prop := ∃ r v1 v2, qE L xs 1000 y1 ((2, 0) :: as) (qS v) = some (some (t, r), qS v1) ∧ qE L xs 1000 y2 ((2, 63) :: as) (qS v1) = some (some (t, r), qS v2) ∧ rlR v2
theorem opR_W {y1 y2 : Nat} {as : List pm_V} (hr : rlR v) (h : opW L xs 900 v y1 y2 as) : opR L xs v y1 y2 0 as := by
  obtain ⟨r, v1, v2, h1, h2, h3, h4⟩ := h
  exact ⟨r, v1, v2, h1, h3, rlR_fP h4 (rlR_fW h2 hr)⟩
theorem opR_no {y1 y2 t : Nat} {as : List pm_V} {r : Int} (hr : rlR v) (h1 : qE L xs 1000 y1 ((2, 0) :: as) (qS v) = some (some (t, r), qS v)) (h2 : qE L xs 1000 y2 ((2, 63) :: as) (qS v) = some (some (t, r), qS v)) : opR L xs v y1 y2 t as := ⟨r, v, v, h1, h2, hr⟩
theorem opr_news (h : rlR v) (y : Int) (hy : y < 2147483648) : opR L xs v nX11_news nX12_news 0 [(0, y)] := opR_W h (op_news (rW_WN h.1) (rW_CN h.1) y hy)
theorem opr_heard (h : rlR v) (a w : Int) : opR L xs v nX11_heard nX12_heard 0 [(0, a), (0, w)] := opR_W h (op_heard (rW_WN h.1) (rW_CN h.1) a w)
theorem opr_whence (h : rlR v) (y mn w : Int) (hy : y < 2147483648) : opR L xs v nX11_whence nX12_whence 0 [(0, y), (0, mn), (0, w)] := opR_W h (op_whence (rW_WN h.1) (rW_CN h.1) y mn w hy)
end FI
end
section
/-! WHAT KEEPS the relation: a number of the wall changed; a hole, a lane more -/
section KP
variable {L : Nat} {xs : Nat → Int} {d : Nat} {v w : Nat → Nat → Int} {k n : Nat}
theorem atM_r (hk : k < 12) (hn : n < cn k) : (k < 3 ∧ atM k n = 30 * k + n ∧ n < 30) ∨ (3 ≤ k ∧ k < 7 ∧ atM k n = 90 + 12 * (k - 3) + n ∧ n < 12) ∨ (k = 7 ∧ atM k n = 138 + n ∧ n < 2) ∨ (8 ≤ k ∧ atM k n = 140 + (k - 8) ∧ n = 0) := by
  unfold atM cn at *
  by_cases h1 : k < 3
  · rw [if_pos h1] at hn ⊢
    exact Or.inl ⟨h1, rfl, hn⟩
  · rw [if_neg h1] at hn ⊢
    by_cases h2 : k < 7
    · rw [if_pos h2] at hn ⊢
      exact Or.inr (Or.inl ⟨by omega, h2, rfl, hn⟩)
    · rw [if_neg h2] at hn ⊢
      by_cases h3 : k = 7
      · rw [if_pos h3] at hn ⊢
        exact Or.inr (Or.inr (Or.inl ⟨h3, rfl, hn⟩))
      · rw [if_neg h3] at hn ⊢
        exact Or.inr (Or.inr (Or.inr ⟨by omega, rfl, by omega⟩))
theorem cn_30 (hk : k < 12) (hn : n < cn k) : n < 30 := by
  have := atM_r hk hn
  omega
theorem atM_lt (hk : k < 12) (hn : n < cn k) : atM k n < 144 := by
  have := atM_r hk hn
  omega
theorem atM_inj {k' n' : Nat} (hk : k < 12) (hn : n < cn k) (hk' : k' < 12) (hn' : n' < cn k') (h : atM k n = atM k' n') : k = k' ∧ n = n' := by
  have a := atM_r hk hn
  have b := atM_r hk' hn'
  omega
theorem hmN_mono (h1 : v 1 1 ≤ w 1 1) (h2 : v 1 2 ≤ w 1 2) (k : Nat) : hmN v k ≤ hmN w k := by
  unfold hmN
  by_cases g1 : k < 3
  · rw [if_pos g1, if_pos g1]
    omega
  · rw [if_neg g1, if_neg g1]
    by_cases g2 : k < 5
    · rw [if_pos g2, if_pos g2]
      exact h1
    · rw [if_neg g2, if_neg g2]
      by_cases g3 : k < 7
      · rw [if_pos g3, if_pos g3]
        exact h2
      · rw [if_neg g3, if_neg g3]
        omega
theorem rlC_mono (h1 : v 1 1 ≤ w 1 1) (h2 : v 1 2 ≤ w 1 2) (hc : ∀ c k, dsC c k → c ≠ 1 → w c k = v c k) (h : rlC v) : rlC w := by
  have e : ∀ c k, dsC c k → c ≠ 1 → w c k = v c k := hc
  unfold dsC at e
  obtain ⟨p1, p2, p3⟩ := h
  refine ⟨?_, ?_, fun i hi => ?_⟩
  · rw [e 18 4 (by omega) (by omega), e 18 5 (by omega) (by omega)]
    exact p1
  · rw [e 18 4 (by omega) (by omega), e 18 5 (by omega) (by omega), e 63 4 (by omega) (by omega), e 63 5 (by omega) (by omega)]
    exact p2
  · rw [e 18 5 (by omega) (by omega)] at hi
    obtain ⟨k, n, q1, q2, q3, q4⟩ := p3 i hi
    have := hmN_mono h1 h2 k
    refine ⟨k, n, q1, q2, by omega, ?_⟩
    rw [e 19 i (by omega) (by omega), e 20 i (by omega) (by omega), e 21 i (by omega) (by omega), e 22 i (by omega) (by omega), e 65 i (by omega) (by omega), e 66 i (by omega) (by omega), e 67 i (by omega) (by omega)]
    exact q4
/-- a number of the wall becomes z, on both sides -/
theorem rW_set {z : Int} (h : rlW v) (hk : k < 12) (hn : n < cn k) (hl : (n : Int) < hmN v k) (hz : lo k ≤ z ∧ z ≤ hi k) (e1 : w (3 + k) n = z) (e2 : w 64 (atM k n) = z) (hc : ∀ c j, dsW c j → ¬ (c = 3 + k ∧ j = n) → ¬ (c = 64 ∧ j = atM k n) → w c j = v c j) : rlW w := by
  unfold dsW at hc
  have h11 : w 1 1 = v 1 1 := hc 1 1 (by omega) (by omega) (by omega)
  have h12 : w 1 2 = v 1 2 := hc 1 2 (by omega) (by omega) (by omega)
  have hh : hmN w = hmN v := by
    funext k
    unfold hmN
    rw [h11, h12]
  obtain ⟨p1, p2, p3, p4, p5, p6, p7, p8⟩ := h
  refine ⟨by rw [h11]; exact p1, by rw [h12]; exact p2, fun k' n' hk' hn' => ?_, ⟨?_, ?_⟩, fun k' n' hk' hn' hl' => ?_, fun m hm => ?_, fun m hm => ?_, fun m hm => ⟨fun hq => ?_, fun hq => ?_⟩⟩
  · by_cases g : k' = k ∧ n' = n
    · rw [g.1, g.2, e1]
      exact hz
    · rw [hc (3 + k') n' (by omega) (by omega) (by omega)]
      exact p3 k' n' hk' hn'
  · rw [h11, hc 63 6 (by omega) (by omega) (by omega)]
    exact p4.1
  · rw [h12, hc 63 8 (by omega) (by omega) (by omega)]
    exact p4.2
  · rw [hh] at hl'
    by_cases g : k' = k ∧ n' = n
    · rw [g.1, g.2, e1, e2]
    · have ne : atM k' n' ≠ atM k n := fun q => g (atM_inj hk' hn' hk hn q)
      rw [hc (3 + k') n' (by omega) (by omega) (by omega), hc 64 (atM k' n') (by omega) (by omega) (by omega)]
      exact p5 k' n' hk' hn' hl'
  · rw [h11] at hm
    rw [hc 68 m (by omega) (by omega) (by omega), hc 15 m (by omega) (by omega) (by omega)]
    exact p6 m hm
  · rw [h12] at hm
    rw [hc 69 m (by omega) (by omega) (by omega), hc 70 m (by omega) (by omega) (by omega), hc 16 m (by omega) (by omega) (by omega), hc 17 m (by omega) (by omega) (by omega)]
    exact p7 m hm
  · rw [h11] at hq
    have : (k = 3 ∨ k = 4) → n ≠ m := fun hk34 hnm => by
      have : hmN v k = v 1 1 := by
        rcases hk34 with rfl | rfl <;> rfl
      omega
    rw [hc 6 m (by omega) (by omega) (by omega), hc 7 m (by omega) (by omega) (by omega)]
    exact (p8 m hm).1 hq
  · rw [h12] at hq
    have : (k = 5 ∨ k = 6) → n ≠ m := fun hk56 hnm => by
      have : hmN v k = v 1 2 := by
        rcases hk56 with rfl | rfl <;> rfl
      omega
    rw [hc 8 m (by omega) (by omega) (by omega), hc 9 m (by omega) (by omega) (by omega)]
    exact (p8 m hm).2 hq
/-- a hole more -/
theorem rW_hole {H : Nat} {a : Int} (h : rlW v) (hH : v 1 1 = (H : Int)) (hH2 : H < 12) (ha : 0 ≤ a ∧ a < 30) (e1 : w 1 1 = (H : Int) + 1) (e2 : w 15 H = a) (e3 : w 68 H = a) (e4 : w 64 (90 + H) = 1) (e5 : w 64 (102 + H) = 1) (e6 : w 63 6 = (H : Int) + 1) (hc : ∀ c j, dsW c j → ¬ (c = 1 ∧ j = 1) → ¬ (c = 15 ∧ j = H) → ¬ (c = 68 ∧ j = H) → ¬ (c = 64 ∧ (j = 90 + H ∨ j = 102 + H)) → ¬ (c = 63 ∧ j = 6) → w c j = v c j) : rlW w := by
  unfold dsW at hc
  have h12 : w 1 2 = v 1 2 := hc 1 2 (by omega) (by omega) (by omega) (by omega) (by omega) (by omega)
  obtain ⟨p1, p2, p3, p4, p5, p6, p7, p8⟩ := h
  refine ⟨by rw [e1]; omega, by rw [h12]; exact p2, fun k' n' hk' hn' => ?_, ⟨by rw [e1, e6], ?_⟩, fun k' n' hk' hn' hl' => ?_, fun m hm => ?_, fun m hm => ?_, fun m hm => ⟨fun hq => ?_, fun hq => ?_⟩⟩
  · rw [hc (3 + k') n' (by omega) (by omega) (by omega) (by omega) (by omega) (by omega)]
    exact p3 k' n' hk' hn'
  · rw [h12, hc 63 8 (by omega) (by omega) (by omega) (by omega) (by omega) (by omega)]
    exact p4.2
  · have r := atM_r hk' hn'
    have hv : w (3 + k') n' = v (3 + k') n' := hc (3 + k') n' (by omega) (by omega) (by omega) (by omega) (by omega) (by omega)
    by_cases g3 : k' = 3 ∧ n' = H
    · obtain ⟨rfl, rfl⟩ := g3
      rw [hv]
      have a1 : w 64 (atM 3 n') = 1 := e4
      rw [a1]
      exact ((p8 n' hH2).1 (by omega)).1.symm
    · by_cases g4 : k' = 4 ∧ n' = H
      · obtain ⟨rfl, rfl⟩ := g4
        rw [hv]
        have a1 : w 64 (atM 4 n') = 1 := e5
        rw [a1]
        exact ((p8 n' hH2).1 (by omega)).2.symm
      · rw [hv, hc 64 (atM k' n') (by omega) (by omega) (by omega) (by omega) (by omega) (by omega)]
        refine p5 k' n' hk' hn' ?_
        unfold hmN at hl' ⊢
        rw [e1, h12] at hl'
        by_cases q1 : k' < 3
        · rw [if_pos q1] at hl' ⊢
          exact hl'
        · rw [if_neg q1] at hl' ⊢
          by_cases q2 : k' < 5
          · rw [if_pos q2] at hl' ⊢
            omega
          · rw [if_neg q2] at hl' ⊢
            exact hl'
  · rw [e1] at hm
    by_cases g : m = H
    · rw [g, e2, e3]
      exact ⟨rfl, ha⟩
    · rw [hc 68 m (by omega) (by omega) (by omega) (by omega) (by omega) (by omega), hc 15 m (by omega) (by omega) (by omega) (by omega) (by omega) (by omega)]
      exact p6 m (by omega)
  · rw [h12] at hm
    rw [hc 69 m (by omega) (by omega) (by omega) (by omega) (by omega) (by omega), hc 70 m (by omega) (by omega) (by omega) (by omega) (by omega) (by omega), hc 16 m (by omega) (by omega) (by omega) (by omega) (by omega) (by omega), hc 17 m (by omega) (by omega) (by omega) (by omega) (by omega) (by omega)]
    exact p7 m hm
  · rw [e1] at hq
    rw [hc 6 m (by omega) (by omega) (by omega) (by omega) (by omega) (by omega), hc 7 m (by omega) (by omega) (by omega) (by omega) (by omega) (by omega)]
    exact (p8 m hm).1 (by omega)
  · rw [h12] at hq
    rw [hc 8 m (by omega) (by omega) (by omega) (by omega) (by omega) (by omega), hc 9 m (by omega) (by omega) (by omega) (by omega) (by omega) (by omega)]
    exact (p8 m hm).2 hq
/-- a lane more -/
theorem rW_lane {H : Nat} {a b : Int} (h : rlW v) (hH : v 1 2 = (H : Int)) (hH2 : H < 12) (ha : 0 ≤ a ∧ a < 60) (hb : 0 ≤ b ∧ b < 60) (e1 : w 1 2 = (H : Int) + 1) (e2 : w 16 H = a) (e2' : w 17 H = b) (e3 : w 69 H = a) (e3' : w 70 H = b) (e4 : w 64 (114 + H) = 1) (e5 : w 64 (126 + H) = 1) (e6 : w 63 8 = (H : Int) + 1) (hc : ∀ c j, dsW c j → ¬ (c = 1 ∧ j = 2) → ¬ ((c = 16 ∨ c = 17) ∧ j = H) → ¬ ((c = 69 ∨ c = 70) ∧ j = H) → ¬ (c = 64 ∧ (j = 114 + H ∨ j = 126 + H)) → ¬ (c = 63 ∧ j = 8) → w c j = v c j) : rlW w := by
  unfold dsW at hc
  have h11 : w 1 1 = v 1 1 := hc 1 1 (by omega) (by omega) (by omega) (by omega) (by omega) (by omega)
  obtain ⟨p1, p2, p3, p4, p5, p6, p7, p8⟩ := h
  refine ⟨by rw [h11]; exact p1, by rw [e1]; omega, fun k' n' hk' hn' => ?_, ⟨?_, by rw [e1, e6]⟩, fun k' n' hk' hn' hl' => ?_, fun m hm => ?_, fun m hm => ?_, fun m hm => ⟨fun hq => ?_, fun hq => ?_⟩⟩
  · rw [hc (3 + k') n' (by omega) (by omega) (by omega) (by omega) (by omega) (by omega)]
    exact p3 k' n' hk' hn'
  · rw [h11, hc 63 6 (by omega) (by omega) (by omega) (by omega) (by omega) (by omega)]
    exact p4.1
  · have r := atM_r hk' hn'
    have hv : w (3 + k') n' = v (3 + k') n' := hc (3 + k') n' (by omega) (by omega) (by omega) (by omega) (by omega) (by omega)
    by_cases g3 : k' = 5 ∧ n' = H
    · obtain ⟨rfl, rfl⟩ := g3
      rw [hv]
      have a1 : w 64 (atM 5 n') = 1 := e4
      rw [a1]
      exact ((p8 n' hH2).2 (by omega)).1.symm
    · by_cases g4 : k' = 6 ∧ n' = H
      · obtain ⟨rfl, rfl⟩ := g4
        rw [hv]
        have a1 : w 64 (atM 6 n') = 1 := e5
        rw [a1]
        exact ((p8 n' hH2).2 (by omega)).2.symm
      · rw [hv, hc 64 (atM k' n') (by omega) (by omega) (by omega) (by omega) (by omega) (by omega)]
        refine p5 k' n' hk' hn' ?_
        unfold hmN at hl' ⊢
        rw [e1, h11] at hl'
        by_cases q1 : k' < 3
        · rw [if_pos q1] at hl' ⊢
          exact hl'
        · rw [if_neg q1] at hl' ⊢
          by_cases q2 : k' < 5
          · rw [if_pos q2] at hl' ⊢
            exact hl'
          · rw [if_neg q2] at hl' ⊢
            by_cases q3 : k' < 7
            · rw [if_pos q3] at hl' ⊢
              omega
            · rw [if_neg q3] at hl' ⊢
              exact hl'
  · rw [h11] at hm
    rw [hc 68 m (by omega) (by omega) (by omega) (by omega) (by omega) (by omega), hc 15 m (by omega) (by omega) (by omega) (by omega) (by omega) (by omega)]
    exact p6 m hm
  · rw [e1] at hm
    by_cases g : m = H
    · rw [g, e2, e2', e3, e3']
      exact ⟨rfl, rfl, ha, hb⟩
    · rw [hc 69 m (by omega) (by omega) (by omega) (by omega) (by omega) (by omega), hc 70 m (by omega) (by omega) (by omega) (by omega) (by omega) (by omega), hc 16 m (by omega) (by omega) (by omega) (by omega) (by omega) (by omega), hc 17 m (by omega) (by omega) (by omega) (by omega) (by omega) (by omega)]
      exact p7 m (by omega)
  · rw [h11] at hq
    rw [hc 6 m (by omega) (by omega) (by omega) (by omega) (by omega) (by omega), hc 7 m (by omega) (by omega) (by omega) (by omega) (by omega) (by omega)]
    exact (p8 m hm).1 hq
  · rw [e1] at hq
    rw [hc 8 m (by omega) (by omega) (by omega) (by omega) (by omega) (by omega), hc 9 m (by omega) (by omega) (by omega) (by omega) (by omega) (by omega)]
    exact (p8 m hm).2 (by omega)
/-- what is none of the wall's -/
def dsO (c k : Nat) : Prop := dsT c k ∨ dsL c k ∨ dsD c k ∨ dsG c k ∨ dsB c k ∨ dsS c k ∨ dsN c k
theorem dsO_W {c k : Nat} (h : dsO c k) : ¬ dsW c k := by
  unfold dsO dsT dsL dsD dsG dsB dsS dsN at h
  unfold dsW
  omega
theorem dsC_W {c k : Nat} (h : dsC c k) (h1 : c ≠ 1) : ¬ dsW c k := by
  unfold dsC at h
  unfold dsW
  omega
/-- all else kept -/
theorem rlR_but (h : rlR v) (hw : rlW w) (hC : rlC w) (hc : ∀ c k, dsO c k → w c k = v c k) : rlR w := by
  unfold dsO at hc
  obtain ⟨-, -, h3, h4, h5, h6, h7, h8, h9⟩ := h
  exact ⟨hw, hC, rlT_cg (fun c k q => hc c k (Or.inl q)) h3, rlL_cg (fun c k q => hc c k (Or.inr (Or.inl q))) h3 h4, rlD_cg (fun c k q => hc c k (Or.inr (Or.inr (Or.inl q)))) h5, rlG_cg (fun c k q => hc c k (Or.inr (Or.inr (Or.inr (Or.inl q))))) h6, rlB_cg (fun c k q => hc c k (Or.inr (Or.inr (Or.inr (Or.inr (Or.inl q)))))) h7, rlS_cg (fun c k q => hc c k (Or.inr (Or.inr (Or.inr (Or.inr (Or.inr (Or.inl q))))))) h8, rlN_cg (fun c k q => hc c k (Or.inr (Or.inr (Or.inr (Or.inr (Or.inr (Or.inr q))))))) h9⟩
end KP
end
section
/-! CALLS that keep the relation: hole, lane, of, led, count, digs, turn (written by wip/p1/83.opsa.py) -/
section OA2
variable {L : Nat} {xs : Nat → Int} {d : Nat} {v w : Nat → Nat → Int} {k n : Nat}
theorem hm_N (hk : k < 12) : hm v (k : Int) = hmN v k := by
  rcases k12 hk with rfl | rfl | rfl | rfl | rfl | rfl | rfl | rfl | rfl | rfl | rfl | rfl <;> rfl
theorem hm_cn (h1 : v 1 1 ≤ 12) (h2 : v 1 2 ≤ 12) (hk : k < 12) (hl : (n : Int) < hmN v k) : n < cn k := by
  rcases k12 hk with rfl | rfl | rfl | rfl | rfl | rfl | rfl | rfl | rfl | rfl | rfl | rfl
  · have q : (n : Int) < 30 := hl
    show n < 30
    omega
  · have q : (n : Int) < 30 := hl
    show n < 30
    omega
  · have q : (n : Int) < 30 := hl
    show n < 30
    omega
  · have q : (n : Int) < v 1 1 := hl
    show n < 12
    omega
  · have q : (n : Int) < v 1 1 := hl
    show n < 12
    omega
  · have q : (n : Int) < v 1 2 := hl
    show n < 12
    omega
  · have q : (n : Int) < v 1 2 := hl
    show n < 12
    omega
  · have q : (n : Int) < 2 := hl
    show n < 2
    omega
  · have q : (n : Int) < 1 := hl
    show n < 1
    omega
  · have q : (n : Int) < 1 := hl
    show n < 1
    omega
  · have q : (n : Int) < 1 := hl
    show n < 1
    omega
  · have q : (n : Int) < 1 := hl
    show n < 1
    omega
theorem m_placeOf_in (h6 : v 63 6 = v 1 1) (h8 : v 63 8 = v 1 2) (b1 : v 1 1 ≤ 12) (b2 : v 1 2 ≤ 12) (hk : k < 12) (hl : (n : Int) < hmN v k) : qE L xs (d + 2) nX12_placeOf [(2, 63), (0, (n : Int)), (0, (k : Int))] (qS v) = some (some (0, ((atM k n : Nat) : Int)), qS v) := by
  have hc := hm_cn b1 b2 hk hl
  rcases k12 hk with rfl | rfl | rfl | rfl | rfl | rfl | rfl | rfl | rfl | rfl | rfl | rfl
  · have q : (n : Int) < 30 := hl
    have e : ((atM 0 n : Nat) : Int) = 30 * ((0 : Nat) : Int) + (n : Int) := by show ((30 * 0 + n : Nat) : Int) = _; omega
    rw [e]
    simp (disch := omega) only [e_X12_placeOf, b_X12_placeOf_0, b_X12_placeOf_9, b_X12_placeOf_12, b_X12_placeOf_21, b_X12_placeOf_24, b_X12_placeOf_33, b_X12_placeOf_34, b_X12_placeOf_35, b_X12_placeOf_46, b_X12_placeOf_49, b_X12_placeOf_62, b_X12_placeOf_65, b_X12_placeOf_79, b_X12_placeOf_80, b_X12_placeOf_81, b_X12_placeOf_92, b_X12_placeOf_95, b_X12_placeOf_108, b_X12_placeOf_111, b_X12_placeOf_125, b_X12_placeOf_126, b_X12_placeOf_127, b_X12_placeOf_133, b_X12_placeOf_140, b_X12_placeOf_143, b_X12_placeOf_151, b_X12_placeOf_152, b_X12_placeOf_153, b_X12_placeOf_157, b_X12_placeOf_168, b_X12_placeOf_171, b_X12_placeOf_182, b_X12_placeOf_183, c_within, zb_0, if_pos, if_neg, w32_id, h6, h8, qB_some, psh_some, psh_none, and_true, true_and, and_false, false_and, and_self, or_true, true_or, or_false, false_or, not_true_eq_false, not_false_eq_true, ↓reduceIte, Int.reduceEq, Int.reduceLT, Int.reduceLE, Int.reduceToNat, Nat.reduceEqDiff, Nat.reduceAdd]
  · have q : (n : Int) < 30 := hl
    have e : ((atM 1 n : Nat) : Int) = 30 * ((1 : Nat) : Int) + (n : Int) := by show ((30 * 1 + n : Nat) : Int) = _; omega
    rw [e]
    simp (disch := omega) only [e_X12_placeOf, b_X12_placeOf_0, b_X12_placeOf_9, b_X12_placeOf_12, b_X12_placeOf_21, b_X12_placeOf_24, b_X12_placeOf_33, b_X12_placeOf_34, b_X12_placeOf_35, b_X12_placeOf_46, b_X12_placeOf_49, b_X12_placeOf_62, b_X12_placeOf_65, b_X12_placeOf_79, b_X12_placeOf_80, b_X12_placeOf_81, b_X12_placeOf_92, b_X12_placeOf_95, b_X12_placeOf_108, b_X12_placeOf_111, b_X12_placeOf_125, b_X12_placeOf_126, b_X12_placeOf_127, b_X12_placeOf_133, b_X12_placeOf_140, b_X12_placeOf_143, b_X12_placeOf_151, b_X12_placeOf_152, b_X12_placeOf_153, b_X12_placeOf_157, b_X12_placeOf_168, b_X12_placeOf_171, b_X12_placeOf_182, b_X12_placeOf_183, c_within, zb_0, if_pos, if_neg, w32_id, h6, h8, qB_some, psh_some, psh_none, and_true, true_and, and_false, false_and, and_self, or_true, true_or, or_false, false_or, not_true_eq_false, not_false_eq_true, ↓reduceIte, Int.reduceEq, Int.reduceLT, Int.reduceLE, Int.reduceToNat, Nat.reduceEqDiff, Nat.reduceAdd]
  · have q : (n : Int) < 30 := hl
    have e : ((atM 2 n : Nat) : Int) = 30 * ((2 : Nat) : Int) + (n : Int) := by show ((30 * 2 + n : Nat) : Int) = _; omega
    rw [e]
    simp (disch := omega) only [e_X12_placeOf, b_X12_placeOf_0, b_X12_placeOf_9, b_X12_placeOf_12, b_X12_placeOf_21, b_X12_placeOf_24, b_X12_placeOf_33, b_X12_placeOf_34, b_X12_placeOf_35, b_X12_placeOf_46, b_X12_placeOf_49, b_X12_placeOf_62, b_X12_placeOf_65, b_X12_placeOf_79, b_X12_placeOf_80, b_X12_placeOf_81, b_X12_placeOf_92, b_X12_placeOf_95, b_X12_placeOf_108, b_X12_placeOf_111, b_X12_placeOf_125, b_X12_placeOf_126, b_X12_placeOf_127, b_X12_placeOf_133, b_X12_placeOf_140, b_X12_placeOf_143, b_X12_placeOf_151, b_X12_placeOf_152, b_X12_placeOf_153, b_X12_placeOf_157, b_X12_placeOf_168, b_X12_placeOf_171, b_X12_placeOf_182, b_X12_placeOf_183, c_within, zb_0, if_pos, if_neg, w32_id, h6, h8, qB_some, psh_some, psh_none, and_true, true_and, and_false, false_and, and_self, or_true, true_or, or_false, false_or, not_true_eq_false, not_false_eq_true, ↓reduceIte, Int.reduceEq, Int.reduceLT, Int.reduceLE, Int.reduceToNat, Nat.reduceEqDiff, Nat.reduceAdd]
  · have q : (n : Int) < v 1 1 := hl
    have e : ((atM 3 n : Nat) : Int) = 90 + 12 * (((3 : Nat) : Int) - 3) + (n : Int) := by show ((90 + 12 * (3 - 3) + n : Nat) : Int) = _; omega
    rw [e]
    simp (disch := omega) only [e_X12_placeOf, b_X12_placeOf_0, b_X12_placeOf_9, b_X12_placeOf_12, b_X12_placeOf_21, b_X12_placeOf_24, b_X12_placeOf_33, b_X12_placeOf_34, b_X12_placeOf_35, b_X12_placeOf_46, b_X12_placeOf_49, b_X12_placeOf_62, b_X12_placeOf_65, b_X12_placeOf_79, b_X12_placeOf_80, b_X12_placeOf_81, b_X12_placeOf_92, b_X12_placeOf_95, b_X12_placeOf_108, b_X12_placeOf_111, b_X12_placeOf_125, b_X12_placeOf_126, b_X12_placeOf_127, b_X12_placeOf_133, b_X12_placeOf_140, b_X12_placeOf_143, b_X12_placeOf_151, b_X12_placeOf_152, b_X12_placeOf_153, b_X12_placeOf_157, b_X12_placeOf_168, b_X12_placeOf_171, b_X12_placeOf_182, b_X12_placeOf_183, c_within, zb_0, if_pos, if_neg, w32_id, h6, h8, qB_some, psh_some, psh_none, and_true, true_and, and_false, false_and, and_self, or_true, true_or, or_false, false_or, not_true_eq_false, not_false_eq_true, ↓reduceIte, Int.reduceEq, Int.reduceLT, Int.reduceLE, Int.reduceToNat, Nat.reduceEqDiff, Nat.reduceAdd]
  · have q : (n : Int) < v 1 1 := hl
    have e : ((atM 4 n : Nat) : Int) = 90 + 12 * (((4 : Nat) : Int) - 3) + (n : Int) := by show ((90 + 12 * (4 - 3) + n : Nat) : Int) = _; omega
    rw [e]
    simp (disch := omega) only [e_X12_placeOf, b_X12_placeOf_0, b_X12_placeOf_9, b_X12_placeOf_12, b_X12_placeOf_21, b_X12_placeOf_24, b_X12_placeOf_33, b_X12_placeOf_34, b_X12_placeOf_35, b_X12_placeOf_46, b_X12_placeOf_49, b_X12_placeOf_62, b_X12_placeOf_65, b_X12_placeOf_79, b_X12_placeOf_80, b_X12_placeOf_81, b_X12_placeOf_92, b_X12_placeOf_95, b_X12_placeOf_108, b_X12_placeOf_111, b_X12_placeOf_125, b_X12_placeOf_126, b_X12_placeOf_127, b_X12_placeOf_133, b_X12_placeOf_140, b_X12_placeOf_143, b_X12_placeOf_151, b_X12_placeOf_152, b_X12_placeOf_153, b_X12_placeOf_157, b_X12_placeOf_168, b_X12_placeOf_171, b_X12_placeOf_182, b_X12_placeOf_183, c_within, zb_0, if_pos, if_neg, w32_id, h6, h8, qB_some, psh_some, psh_none, and_true, true_and, and_false, false_and, and_self, or_true, true_or, or_false, false_or, not_true_eq_false, not_false_eq_true, ↓reduceIte, Int.reduceEq, Int.reduceLT, Int.reduceLE, Int.reduceToNat, Nat.reduceEqDiff, Nat.reduceAdd]
  · have q : (n : Int) < v 1 2 := hl
    have e : ((atM 5 n : Nat) : Int) = 114 + 12 * (((5 : Nat) : Int) - 5) + (n : Int) := by show ((90 + 12 * (5 - 3) + n : Nat) : Int) = _; omega
    rw [e]
    simp (disch := omega) only [e_X12_placeOf, b_X12_placeOf_0, b_X12_placeOf_9, b_X12_placeOf_12, b_X12_placeOf_21, b_X12_placeOf_24, b_X12_placeOf_33, b_X12_placeOf_34, b_X12_placeOf_35, b_X12_placeOf_46, b_X12_placeOf_49, b_X12_placeOf_62, b_X12_placeOf_65, b_X12_placeOf_79, b_X12_placeOf_80, b_X12_placeOf_81, b_X12_placeOf_92, b_X12_placeOf_95, b_X12_placeOf_108, b_X12_placeOf_111, b_X12_placeOf_125, b_X12_placeOf_126, b_X12_placeOf_127, b_X12_placeOf_133, b_X12_placeOf_140, b_X12_placeOf_143, b_X12_placeOf_151, b_X12_placeOf_152, b_X12_placeOf_153, b_X12_placeOf_157, b_X12_placeOf_168, b_X12_placeOf_171, b_X12_placeOf_182, b_X12_placeOf_183, c_within, zb_0, if_pos, if_neg, w32_id, h6, h8, qB_some, psh_some, psh_none, and_true, true_and, and_false, false_and, and_self, or_true, true_or, or_false, false_or, not_true_eq_false, not_false_eq_true, ↓reduceIte, Int.reduceEq, Int.reduceLT, Int.reduceLE, Int.reduceToNat, Nat.reduceEqDiff, Nat.reduceAdd]
  · have q : (n : Int) < v 1 2 := hl
    have e : ((atM 6 n : Nat) : Int) = 114 + 12 * (((6 : Nat) : Int) - 5) + (n : Int) := by show ((90 + 12 * (6 - 3) + n : Nat) : Int) = _; omega
    rw [e]
    simp (disch := omega) only [e_X12_placeOf, b_X12_placeOf_0, b_X12_placeOf_9, b_X12_placeOf_12, b_X12_placeOf_21, b_X12_placeOf_24, b_X12_placeOf_33, b_X12_placeOf_34, b_X12_placeOf_35, b_X12_placeOf_46, b_X12_placeOf_49, b_X12_placeOf_62, b_X12_placeOf_65, b_X12_placeOf_79, b_X12_placeOf_80, b_X12_placeOf_81, b_X12_placeOf_92, b_X12_placeOf_95, b_X12_placeOf_108, b_X12_placeOf_111, b_X12_placeOf_125, b_X12_placeOf_126, b_X12_placeOf_127, b_X12_placeOf_133, b_X12_placeOf_140, b_X12_placeOf_143, b_X12_placeOf_151, b_X12_placeOf_152, b_X12_placeOf_153, b_X12_placeOf_157, b_X12_placeOf_168, b_X12_placeOf_171, b_X12_placeOf_182, b_X12_placeOf_183, c_within, zb_0, if_pos, if_neg, w32_id, h6, h8, qB_some, psh_some, psh_none, and_true, true_and, and_false, false_and, and_self, or_true, true_or, or_false, false_or, not_true_eq_false, not_false_eq_true, ↓reduceIte, Int.reduceEq, Int.reduceLT, Int.reduceLE, Int.reduceToNat, Nat.reduceEqDiff, Nat.reduceAdd]
  · have q : (n : Int) < 2 := hl
    have e : ((atM 7 n : Nat) : Int) = 138 + (n : Int) := by show ((138 + n : Nat) : Int) = _; omega
    rw [e]
    simp (disch := omega) only [e_X12_placeOf, b_X12_placeOf_0, b_X12_placeOf_9, b_X12_placeOf_12, b_X12_placeOf_21, b_X12_placeOf_24, b_X12_placeOf_33, b_X12_placeOf_34, b_X12_placeOf_35, b_X12_placeOf_46, b_X12_placeOf_49, b_X12_placeOf_62, b_X12_placeOf_65, b_X12_placeOf_79, b_X12_placeOf_80, b_X12_placeOf_81, b_X12_placeOf_92, b_X12_placeOf_95, b_X12_placeOf_108, b_X12_placeOf_111, b_X12_placeOf_125, b_X12_placeOf_126, b_X12_placeOf_127, b_X12_placeOf_133, b_X12_placeOf_140, b_X12_placeOf_143, b_X12_placeOf_151, b_X12_placeOf_152, b_X12_placeOf_153, b_X12_placeOf_157, b_X12_placeOf_168, b_X12_placeOf_171, b_X12_placeOf_182, b_X12_placeOf_183, c_within, zb_0, if_pos, if_neg, w32_id, h6, h8, qB_some, psh_some, psh_none, and_true, true_and, and_false, false_and, and_self, or_true, true_or, or_false, false_or, not_true_eq_false, not_false_eq_true, ↓reduceIte, Int.reduceEq, Int.reduceLT, Int.reduceLE, Int.reduceToNat, Nat.reduceEqDiff, Nat.reduceAdd]
  · have q : (n : Int) < 1 := hl
    have q0 : n = 0 := by omega
    subst q0
    have e : ((atM 8 0 : Nat) : Int) = 140 + ((8 : Nat) : Int) - 8 := by decide
    rw [e]
    simp (disch := omega) only [e_X12_placeOf, b_X12_placeOf_0, b_X12_placeOf_9, b_X12_placeOf_12, b_X12_placeOf_21, b_X12_placeOf_24, b_X12_placeOf_33, b_X12_placeOf_34, b_X12_placeOf_35, b_X12_placeOf_46, b_X12_placeOf_49, b_X12_placeOf_62, b_X12_placeOf_65, b_X12_placeOf_79, b_X12_placeOf_80, b_X12_placeOf_81, b_X12_placeOf_92, b_X12_placeOf_95, b_X12_placeOf_108, b_X12_placeOf_111, b_X12_placeOf_125, b_X12_placeOf_126, b_X12_placeOf_127, b_X12_placeOf_133, b_X12_placeOf_140, b_X12_placeOf_143, b_X12_placeOf_151, b_X12_placeOf_152, b_X12_placeOf_153, b_X12_placeOf_157, b_X12_placeOf_168, b_X12_placeOf_171, b_X12_placeOf_182, b_X12_placeOf_183, c_within, zb_0, if_pos, if_neg, w32_id, h6, h8, qB_some, psh_some, psh_none, and_true, true_and, and_false, false_and, and_self, or_true, true_or, or_false, false_or, not_true_eq_false, not_false_eq_true, ↓reduceIte, Int.reduceEq, Int.reduceLT, Int.reduceLE, Int.reduceToNat, Nat.reduceEqDiff, Nat.reduceAdd]
  · have q : (n : Int) < 1 := hl
    have q0 : n = 0 := by omega
    subst q0
    have e : ((atM 9 0 : Nat) : Int) = 140 + ((9 : Nat) : Int) - 8 := by decide
    rw [e]
    simp (disch := omega) only [e_X12_placeOf, b_X12_placeOf_0, b_X12_placeOf_9, b_X12_placeOf_12, b_X12_placeOf_21, b_X12_placeOf_24, b_X12_placeOf_33, b_X12_placeOf_34, b_X12_placeOf_35, b_X12_placeOf_46, b_X12_placeOf_49, b_X12_placeOf_62, b_X12_placeOf_65, b_X12_placeOf_79, b_X12_placeOf_80, b_X12_placeOf_81, b_X12_placeOf_92, b_X12_placeOf_95, b_X12_placeOf_108, b_X12_placeOf_111, b_X12_placeOf_125, b_X12_placeOf_126, b_X12_placeOf_127, b_X12_placeOf_133, b_X12_placeOf_140, b_X12_placeOf_143, b_X12_placeOf_151, b_X12_placeOf_152, b_X12_placeOf_153, b_X12_placeOf_157, b_X12_placeOf_168, b_X12_placeOf_171, b_X12_placeOf_182, b_X12_placeOf_183, c_within, zb_0, if_pos, if_neg, w32_id, h6, h8, qB_some, psh_some, psh_none, and_true, true_and, and_false, false_and, and_self, or_true, true_or, or_false, false_or, not_true_eq_false, not_false_eq_true, ↓reduceIte, Int.reduceEq, Int.reduceLT, Int.reduceLE, Int.reduceToNat, Nat.reduceEqDiff, Nat.reduceAdd]
  · have q : (n : Int) < 1 := hl
    have q0 : n = 0 := by omega
    subst q0
    have e : ((atM 10 0 : Nat) : Int) = 140 + ((10 : Nat) : Int) - 8 := by decide
    rw [e]
    simp (disch := omega) only [e_X12_placeOf, b_X12_placeOf_0, b_X12_placeOf_9, b_X12_placeOf_12, b_X12_placeOf_21, b_X12_placeOf_24, b_X12_placeOf_33, b_X12_placeOf_34, b_X12_placeOf_35, b_X12_placeOf_46, b_X12_placeOf_49, b_X12_placeOf_62, b_X12_placeOf_65, b_X12_placeOf_79, b_X12_placeOf_80, b_X12_placeOf_81, b_X12_placeOf_92, b_X12_placeOf_95, b_X12_placeOf_108, b_X12_placeOf_111, b_X12_placeOf_125, b_X12_placeOf_126, b_X12_placeOf_127, b_X12_placeOf_133, b_X12_placeOf_140, b_X12_placeOf_143, b_X12_placeOf_151, b_X12_placeOf_152, b_X12_placeOf_153, b_X12_placeOf_157, b_X12_placeOf_168, b_X12_placeOf_171, b_X12_placeOf_182, b_X12_placeOf_183, c_within, zb_0, if_pos, if_neg, w32_id, h6, h8, qB_some, psh_some, psh_none, and_true, true_and, and_false, false_and, and_self, or_true, true_or, or_false, false_or, not_true_eq_false, not_false_eq_true, ↓reduceIte, Int.reduceEq, Int.reduceLT, Int.reduceLE, Int.reduceToNat, Nat.reduceEqDiff, Nat.reduceAdd]
  · have q : (n : Int) < 1 := hl
    have q0 : n = 0 := by omega
    subst q0
    have e : ((atM 11 0 : Nat) : Int) = 140 + ((11 : Nat) : Int) - 8 := by decide
    rw [e]
    simp (disch := omega) only [e_X12_placeOf, b_X12_placeOf_0, b_X12_placeOf_9, b_X12_placeOf_12, b_X12_placeOf_21, b_X12_placeOf_24, b_X12_placeOf_33, b_X12_placeOf_34, b_X12_placeOf_35, b_X12_placeOf_46, b_X12_placeOf_49, b_X12_placeOf_62, b_X12_placeOf_65, b_X12_placeOf_79, b_X12_placeOf_80, b_X12_placeOf_81, b_X12_placeOf_92, b_X12_placeOf_95, b_X12_placeOf_108, b_X12_placeOf_111, b_X12_placeOf_125, b_X12_placeOf_126, b_X12_placeOf_127, b_X12_placeOf_133, b_X12_placeOf_140, b_X12_placeOf_143, b_X12_placeOf_151, b_X12_placeOf_152, b_X12_placeOf_153, b_X12_placeOf_157, b_X12_placeOf_168, b_X12_placeOf_171, b_X12_placeOf_182, b_X12_placeOf_183, c_within, zb_0, if_pos, if_neg, w32_id, h6, h8, qB_some, psh_some, psh_none, and_true, true_and, and_false, false_and, and_self, or_true, true_or, or_false, false_or, not_true_eq_false, not_false_eq_true, ↓reduceIte, Int.reduceEq, Int.reduceLT, Int.reduceLE, Int.reduceToNat, Nat.reduceEqDiff, Nat.reduceAdd]
theorem m_placeOf_out (h6 : v 63 6 = v 1 1) (h8 : v 63 8 = v 1 2) (b1 : 0 ≤ v 1 1 ∧ v 1 1 ≤ 12) (b2 : 0 ≤ v 1 2 ∧ v 1 2 ≤ 12) (n a : Int) (h : ¬ ((0 ≤ a ∧ a < 12) ∧ 0 ≤ n ∧ n < hm v a)) : qE L xs (d + 2) nX12_placeOf [(2, 63), (0, n), (0, a)] (qS v) = some (some (0, -1), qS v) := by
  by_cases ha : 0 ≤ a ∧ a < 12
  · have h0 : a = 0 ∨ a = 1 ∨ a = 2 ∨ a = 3 ∨ a = 4 ∨ a = 5 ∨ a = 6 ∨ a = 7 ∨ a = 8 ∨ a = 9 ∨ a = 10 ∨ a = 11 := by omega
    rcases h0 with rfl | rfl | rfl | rfl | rfl | rfl | rfl | rfl | rfl | rfl | rfl | rfl
    · have q : ¬ (0 ≤ n ∧ n < 30) := fun z => h ⟨ha, z⟩
      simp (disch := omega) only [e_X12_placeOf, b_X12_placeOf_0, b_X12_placeOf_9, b_X12_placeOf_12, b_X12_placeOf_21, b_X12_placeOf_24, b_X12_placeOf_33, b_X12_placeOf_34, b_X12_placeOf_35, b_X12_placeOf_46, b_X12_placeOf_49, b_X12_placeOf_62, b_X12_placeOf_65, b_X12_placeOf_79, b_X12_placeOf_80, b_X12_placeOf_81, b_X12_placeOf_92, b_X12_placeOf_95, b_X12_placeOf_108, b_X12_placeOf_111, b_X12_placeOf_125, b_X12_placeOf_126, b_X12_placeOf_127, b_X12_placeOf_133, b_X12_placeOf_140, b_X12_placeOf_143, b_X12_placeOf_151, b_X12_placeOf_152, b_X12_placeOf_153, b_X12_placeOf_157, b_X12_placeOf_168, b_X12_placeOf_171, b_X12_placeOf_182, b_X12_placeOf_183, c_within, zb_0, if_pos, if_neg, w32_id, h6, h8, qB_some, psh_some, psh_none, and_true, true_and, and_false, false_and, and_self, or_true, true_or, or_false, false_or, not_true_eq_false, not_false_eq_true, ↓reduceIte, Int.reduceEq, Int.reduceLT, Int.reduceLE, Int.reduceToNat, Nat.reduceEqDiff, Nat.reduceAdd]
    · have q : ¬ (0 ≤ n ∧ n < 30) := fun z => h ⟨ha, z⟩
      simp (disch := omega) only [e_X12_placeOf, b_X12_placeOf_0, b_X12_placeOf_9, b_X12_placeOf_12, b_X12_placeOf_21, b_X12_placeOf_24, b_X12_placeOf_33, b_X12_placeOf_34, b_X12_placeOf_35, b_X12_placeOf_46, b_X12_placeOf_49, b_X12_placeOf_62, b_X12_placeOf_65, b_X12_placeOf_79, b_X12_placeOf_80, b_X12_placeOf_81, b_X12_placeOf_92, b_X12_placeOf_95, b_X12_placeOf_108, b_X12_placeOf_111, b_X12_placeOf_125, b_X12_placeOf_126, b_X12_placeOf_127, b_X12_placeOf_133, b_X12_placeOf_140, b_X12_placeOf_143, b_X12_placeOf_151, b_X12_placeOf_152, b_X12_placeOf_153, b_X12_placeOf_157, b_X12_placeOf_168, b_X12_placeOf_171, b_X12_placeOf_182, b_X12_placeOf_183, c_within, zb_0, if_pos, if_neg, w32_id, h6, h8, qB_some, psh_some, psh_none, and_true, true_and, and_false, false_and, and_self, or_true, true_or, or_false, false_or, not_true_eq_false, not_false_eq_true, ↓reduceIte, Int.reduceEq, Int.reduceLT, Int.reduceLE, Int.reduceToNat, Nat.reduceEqDiff, Nat.reduceAdd]
    · have q : ¬ (0 ≤ n ∧ n < 30) := fun z => h ⟨ha, z⟩
      simp (disch := omega) only [e_X12_placeOf, b_X12_placeOf_0, b_X12_placeOf_9, b_X12_placeOf_12, b_X12_placeOf_21, b_X12_placeOf_24, b_X12_placeOf_33, b_X12_placeOf_34, b_X12_placeOf_35, b_X12_placeOf_46, b_X12_placeOf_49, b_X12_placeOf_62, b_X12_placeOf_65, b_X12_placeOf_79, b_X12_placeOf_80, b_X12_placeOf_81, b_X12_placeOf_92, b_X12_placeOf_95, b_X12_placeOf_108, b_X12_placeOf_111, b_X12_placeOf_125, b_X12_placeOf_126, b_X12_placeOf_127, b_X12_placeOf_133, b_X12_placeOf_140, b_X12_placeOf_143, b_X12_placeOf_151, b_X12_placeOf_152, b_X12_placeOf_153, b_X12_placeOf_157, b_X12_placeOf_168, b_X12_placeOf_171, b_X12_placeOf_182, b_X12_placeOf_183, c_within, zb_0, if_pos, if_neg, w32_id, h6, h8, qB_some, psh_some, psh_none, and_true, true_and, and_false, false_and, and_self, or_true, true_or, or_false, false_or, not_true_eq_false, not_false_eq_true, ↓reduceIte, Int.reduceEq, Int.reduceLT, Int.reduceLE, Int.reduceToNat, Nat.reduceEqDiff, Nat.reduceAdd]
    · have q : ¬ (0 ≤ n ∧ n < v 1 1) := fun z => h ⟨ha, z⟩
      simp (disch := omega) only [e_X12_placeOf, b_X12_placeOf_0, b_X12_placeOf_9, b_X12_placeOf_12, b_X12_placeOf_21, b_X12_placeOf_24, b_X12_placeOf_33, b_X12_placeOf_34, b_X12_placeOf_35, b_X12_placeOf_46, b_X12_placeOf_49, b_X12_placeOf_62, b_X12_placeOf_65, b_X12_placeOf_79, b_X12_placeOf_80, b_X12_placeOf_81, b_X12_placeOf_92, b_X12_placeOf_95, b_X12_placeOf_108, b_X12_placeOf_111, b_X12_placeOf_125, b_X12_placeOf_126, b_X12_placeOf_127, b_X12_placeOf_133, b_X12_placeOf_140, b_X12_placeOf_143, b_X12_placeOf_151, b_X12_placeOf_152, b_X12_placeOf_153, b_X12_placeOf_157, b_X12_placeOf_168, b_X12_placeOf_171, b_X12_placeOf_182, b_X12_placeOf_183, c_within, zb_0, if_pos, if_neg, w32_id, h6, h8, qB_some, psh_some, psh_none, and_true, true_and, and_false, false_and, and_self, or_true, true_or, or_false, false_or, not_true_eq_false, not_false_eq_true, ↓reduceIte, Int.reduceEq, Int.reduceLT, Int.reduceLE, Int.reduceToNat, Nat.reduceEqDiff, Nat.reduceAdd]
    · have q : ¬ (0 ≤ n ∧ n < v 1 1) := fun z => h ⟨ha, z⟩
      simp (disch := omega) only [e_X12_placeOf, b_X12_placeOf_0, b_X12_placeOf_9, b_X12_placeOf_12, b_X12_placeOf_21, b_X12_placeOf_24, b_X12_placeOf_33, b_X12_placeOf_34, b_X12_placeOf_35, b_X12_placeOf_46, b_X12_placeOf_49, b_X12_placeOf_62, b_X12_placeOf_65, b_X12_placeOf_79, b_X12_placeOf_80, b_X12_placeOf_81, b_X12_placeOf_92, b_X12_placeOf_95, b_X12_placeOf_108, b_X12_placeOf_111, b_X12_placeOf_125, b_X12_placeOf_126, b_X12_placeOf_127, b_X12_placeOf_133, b_X12_placeOf_140, b_X12_placeOf_143, b_X12_placeOf_151, b_X12_placeOf_152, b_X12_placeOf_153, b_X12_placeOf_157, b_X12_placeOf_168, b_X12_placeOf_171, b_X12_placeOf_182, b_X12_placeOf_183, c_within, zb_0, if_pos, if_neg, w32_id, h6, h8, qB_some, psh_some, psh_none, and_true, true_and, and_false, false_and, and_self, or_true, true_or, or_false, false_or, not_true_eq_false, not_false_eq_true, ↓reduceIte, Int.reduceEq, Int.reduceLT, Int.reduceLE, Int.reduceToNat, Nat.reduceEqDiff, Nat.reduceAdd]
    · have q : ¬ (0 ≤ n ∧ n < v 1 2) := fun z => h ⟨ha, z⟩
      simp (disch := omega) only [e_X12_placeOf, b_X12_placeOf_0, b_X12_placeOf_9, b_X12_placeOf_12, b_X12_placeOf_21, b_X12_placeOf_24, b_X12_placeOf_33, b_X12_placeOf_34, b_X12_placeOf_35, b_X12_placeOf_46, b_X12_placeOf_49, b_X12_placeOf_62, b_X12_placeOf_65, b_X12_placeOf_79, b_X12_placeOf_80, b_X12_placeOf_81, b_X12_placeOf_92, b_X12_placeOf_95, b_X12_placeOf_108, b_X12_placeOf_111, b_X12_placeOf_125, b_X12_placeOf_126, b_X12_placeOf_127, b_X12_placeOf_133, b_X12_placeOf_140, b_X12_placeOf_143, b_X12_placeOf_151, b_X12_placeOf_152, b_X12_placeOf_153, b_X12_placeOf_157, b_X12_placeOf_168, b_X12_placeOf_171, b_X12_placeOf_182, b_X12_placeOf_183, c_within, zb_0, if_pos, if_neg, w32_id, h6, h8, qB_some, psh_some, psh_none, and_true, true_and, and_false, false_and, and_self, or_true, true_or, or_false, false_or, not_true_eq_false, not_false_eq_true, ↓reduceIte, Int.reduceEq, Int.reduceLT, Int.reduceLE, Int.reduceToNat, Nat.reduceEqDiff, Nat.reduceAdd]
    · have q : ¬ (0 ≤ n ∧ n < v 1 2) := fun z => h ⟨ha, z⟩
      simp (disch := omega) only [e_X12_placeOf, b_X12_placeOf_0, b_X12_placeOf_9, b_X12_placeOf_12, b_X12_placeOf_21, b_X12_placeOf_24, b_X12_placeOf_33, b_X12_placeOf_34, b_X12_placeOf_35, b_X12_placeOf_46, b_X12_placeOf_49, b_X12_placeOf_62, b_X12_placeOf_65, b_X12_placeOf_79, b_X12_placeOf_80, b_X12_placeOf_81, b_X12_placeOf_92, b_X12_placeOf_95, b_X12_placeOf_108, b_X12_placeOf_111, b_X12_placeOf_125, b_X12_placeOf_126, b_X12_placeOf_127, b_X12_placeOf_133, b_X12_placeOf_140, b_X12_placeOf_143, b_X12_placeOf_151, b_X12_placeOf_152, b_X12_placeOf_153, b_X12_placeOf_157, b_X12_placeOf_168, b_X12_placeOf_171, b_X12_placeOf_182, b_X12_placeOf_183, c_within, zb_0, if_pos, if_neg, w32_id, h6, h8, qB_some, psh_some, psh_none, and_true, true_and, and_false, false_and, and_self, or_true, true_or, or_false, false_or, not_true_eq_false, not_false_eq_true, ↓reduceIte, Int.reduceEq, Int.reduceLT, Int.reduceLE, Int.reduceToNat, Nat.reduceEqDiff, Nat.reduceAdd]
    · have q : ¬ (0 ≤ n ∧ n < 2) := fun z => h ⟨ha, z⟩
      simp (disch := omega) only [e_X12_placeOf, b_X12_placeOf_0, b_X12_placeOf_9, b_X12_placeOf_12, b_X12_placeOf_21, b_X12_placeOf_24, b_X12_placeOf_33, b_X12_placeOf_34, b_X12_placeOf_35, b_X12_placeOf_46, b_X12_placeOf_49, b_X12_placeOf_62, b_X12_placeOf_65, b_X12_placeOf_79, b_X12_placeOf_80, b_X12_placeOf_81, b_X12_placeOf_92, b_X12_placeOf_95, b_X12_placeOf_108, b_X12_placeOf_111, b_X12_placeOf_125, b_X12_placeOf_126, b_X12_placeOf_127, b_X12_placeOf_133, b_X12_placeOf_140, b_X12_placeOf_143, b_X12_placeOf_151, b_X12_placeOf_152, b_X12_placeOf_153, b_X12_placeOf_157, b_X12_placeOf_168, b_X12_placeOf_171, b_X12_placeOf_182, b_X12_placeOf_183, c_within, zb_0, if_pos, if_neg, w32_id, h6, h8, qB_some, psh_some, psh_none, and_true, true_and, and_false, false_and, and_self, or_true, true_or, or_false, false_or, not_true_eq_false, not_false_eq_true, ↓reduceIte, Int.reduceEq, Int.reduceLT, Int.reduceLE, Int.reduceToNat, Nat.reduceEqDiff, Nat.reduceAdd]
    · have q : ¬ (0 ≤ n ∧ n < 1) := fun z => h ⟨ha, z⟩
      simp (disch := omega) only [e_X12_placeOf, b_X12_placeOf_0, b_X12_placeOf_9, b_X12_placeOf_12, b_X12_placeOf_21, b_X12_placeOf_24, b_X12_placeOf_33, b_X12_placeOf_34, b_X12_placeOf_35, b_X12_placeOf_46, b_X12_placeOf_49, b_X12_placeOf_62, b_X12_placeOf_65, b_X12_placeOf_79, b_X12_placeOf_80, b_X12_placeOf_81, b_X12_placeOf_92, b_X12_placeOf_95, b_X12_placeOf_108, b_X12_placeOf_111, b_X12_placeOf_125, b_X12_placeOf_126, b_X12_placeOf_127, b_X12_placeOf_133, b_X12_placeOf_140, b_X12_placeOf_143, b_X12_placeOf_151, b_X12_placeOf_152, b_X12_placeOf_153, b_X12_placeOf_157, b_X12_placeOf_168, b_X12_placeOf_171, b_X12_placeOf_182, b_X12_placeOf_183, c_within, zb_0, if_pos, if_neg, w32_id, h6, h8, qB_some, psh_some, psh_none, and_true, true_and, and_false, false_and, and_self, or_true, true_or, or_false, false_or, not_true_eq_false, not_false_eq_true, ↓reduceIte, Int.reduceEq, Int.reduceLT, Int.reduceLE, Int.reduceToNat, Nat.reduceEqDiff, Nat.reduceAdd]
    · have q : ¬ (0 ≤ n ∧ n < 1) := fun z => h ⟨ha, z⟩
      simp (disch := omega) only [e_X12_placeOf, b_X12_placeOf_0, b_X12_placeOf_9, b_X12_placeOf_12, b_X12_placeOf_21, b_X12_placeOf_24, b_X12_placeOf_33, b_X12_placeOf_34, b_X12_placeOf_35, b_X12_placeOf_46, b_X12_placeOf_49, b_X12_placeOf_62, b_X12_placeOf_65, b_X12_placeOf_79, b_X12_placeOf_80, b_X12_placeOf_81, b_X12_placeOf_92, b_X12_placeOf_95, b_X12_placeOf_108, b_X12_placeOf_111, b_X12_placeOf_125, b_X12_placeOf_126, b_X12_placeOf_127, b_X12_placeOf_133, b_X12_placeOf_140, b_X12_placeOf_143, b_X12_placeOf_151, b_X12_placeOf_152, b_X12_placeOf_153, b_X12_placeOf_157, b_X12_placeOf_168, b_X12_placeOf_171, b_X12_placeOf_182, b_X12_placeOf_183, c_within, zb_0, if_pos, if_neg, w32_id, h6, h8, qB_some, psh_some, psh_none, and_true, true_and, and_false, false_and, and_self, or_true, true_or, or_false, false_or, not_true_eq_false, not_false_eq_true, ↓reduceIte, Int.reduceEq, Int.reduceLT, Int.reduceLE, Int.reduceToNat, Nat.reduceEqDiff, Nat.reduceAdd]
    · have q : ¬ (0 ≤ n ∧ n < 1) := fun z => h ⟨ha, z⟩
      simp (disch := omega) only [e_X12_placeOf, b_X12_placeOf_0, b_X12_placeOf_9, b_X12_placeOf_12, b_X12_placeOf_21, b_X12_placeOf_24, b_X12_placeOf_33, b_X12_placeOf_34, b_X12_placeOf_35, b_X12_placeOf_46, b_X12_placeOf_49, b_X12_placeOf_62, b_X12_placeOf_65, b_X12_placeOf_79, b_X12_placeOf_80, b_X12_placeOf_81, b_X12_placeOf_92, b_X12_placeOf_95, b_X12_placeOf_108, b_X12_placeOf_111, b_X12_placeOf_125, b_X12_placeOf_126, b_X12_placeOf_127, b_X12_placeOf_133, b_X12_placeOf_140, b_X12_placeOf_143, b_X12_placeOf_151, b_X12_placeOf_152, b_X12_placeOf_153, b_X12_placeOf_157, b_X12_placeOf_168, b_X12_placeOf_171, b_X12_placeOf_182, b_X12_placeOf_183, c_within, zb_0, if_pos, if_neg, w32_id, h6, h8, qB_some, psh_some, psh_none, and_true, true_and, and_false, false_and, and_self, or_true, true_or, or_false, false_or, not_true_eq_false, not_false_eq_true, ↓reduceIte, Int.reduceEq, Int.reduceLT, Int.reduceLE, Int.reduceToNat, Nat.reduceEqDiff, Nat.reduceAdd]
    · have q : ¬ (0 ≤ n ∧ n < 1) := fun z => h ⟨ha, z⟩
      simp (disch := omega) only [e_X12_placeOf, b_X12_placeOf_0, b_X12_placeOf_9, b_X12_placeOf_12, b_X12_placeOf_21, b_X12_placeOf_24, b_X12_placeOf_33, b_X12_placeOf_34, b_X12_placeOf_35, b_X12_placeOf_46, b_X12_placeOf_49, b_X12_placeOf_62, b_X12_placeOf_65, b_X12_placeOf_79, b_X12_placeOf_80, b_X12_placeOf_81, b_X12_placeOf_92, b_X12_placeOf_95, b_X12_placeOf_108, b_X12_placeOf_111, b_X12_placeOf_125, b_X12_placeOf_126, b_X12_placeOf_127, b_X12_placeOf_133, b_X12_placeOf_140, b_X12_placeOf_143, b_X12_placeOf_151, b_X12_placeOf_152, b_X12_placeOf_153, b_X12_placeOf_157, b_X12_placeOf_168, b_X12_placeOf_171, b_X12_placeOf_182, b_X12_placeOf_183, c_within, zb_0, if_pos, if_neg, w32_id, h6, h8, qB_some, psh_some, psh_none, and_true, true_and, and_false, false_and, and_self, or_true, true_or, or_false, false_or, not_true_eq_false, not_false_eq_true, ↓reduceIte, Int.reduceEq, Int.reduceLT, Int.reduceLE, Int.reduceToNat, Nat.reduceEqDiff, Nat.reduceAdd]
  · simp (disch := omega) only [e_X12_placeOf, b_X12_placeOf_0, b_X12_placeOf_9, b_X12_placeOf_12, b_X12_placeOf_21, b_X12_placeOf_24, b_X12_placeOf_33, b_X12_placeOf_34, b_X12_placeOf_35, b_X12_placeOf_46, b_X12_placeOf_49, b_X12_placeOf_62, b_X12_placeOf_65, b_X12_placeOf_79, b_X12_placeOf_80, b_X12_placeOf_81, b_X12_placeOf_92, b_X12_placeOf_95, b_X12_placeOf_108, b_X12_placeOf_111, b_X12_placeOf_125, b_X12_placeOf_126, b_X12_placeOf_127, b_X12_placeOf_133, b_X12_placeOf_140, b_X12_placeOf_143, b_X12_placeOf_151, b_X12_placeOf_152, b_X12_placeOf_153, b_X12_placeOf_157, b_X12_placeOf_168, b_X12_placeOf_171, b_X12_placeOf_182, b_X12_placeOf_183, c_within, zb_0, if_neg, qB_some, psh_some, psh_none, and_true, true_and, and_false, false_and, and_self, or_true, true_or, or_false, false_or, not_true_eq_false, not_false_eq_true, ↓reduceIte, Int.reduceEq, Int.reduceLT, Int.reduceLE, Int.reduceToNat, Nat.reduceEqDiff, Nat.reduceAdd]
    by_cases z : n = 0
    · simp (disch := omega) only [if_pos, if_neg, qB_some, psh_some, psh_none, and_true, true_and, and_false, false_and, and_self, or_true, true_or, or_false, false_or, not_true_eq_false, not_false_eq_true, ↓reduceIte, Int.reduceEq, Int.reduceLT, Int.reduceLE, Int.reduceToNat, Nat.reduceEqDiff, Nat.reduceAdd]
    · simp (disch := omega) only [if_neg, qB_some, psh_some, psh_none, and_true, true_and, and_false, false_and, and_self, or_true, true_or, or_false, false_or, not_true_eq_false, not_false_eq_true, ↓reduceIte, Int.reduceEq, Int.reduceLT, Int.reduceLE, Int.reduceToNat, Nat.reduceEqDiff, Nat.reduceAdd]
theorem m_addsHole {H : Nat} (h6 : v 63 6 = (H : Int)) (hH : H < 12) (a : Int) : qE L xs (d + 1) nX12_addsHole [(2, 63), (0, a)] (qS v) = some (some (0, (H : Int)), qS (pm_up (pm_up (pm_up (pm_up v 68 H a) 64 (90 + H) 1) 64 (102 + H) 1) 63 6 ((H : Int) + 1))) := by
  rw [e_X12_addsHole, b_X12_addsHole_0, h6, if_pos (by omega), Int.toNat_natCast, b_X12_addsHole_10, up_ne (by omega), h6, w32_id (by omega) (by omega), if_pos (by omega), show (90 + (H : Int)).toNat = 90 + H by omega, b_X12_addsHole_23, up_ne (by omega), up_ne (by omega), h6, w32_id (by omega) (by omega), if_pos (by omega), show (102 + (H : Int)).toNat = 102 + H by omega, b_X12_addsHole_36, up_ne (by omega), up_ne (by omega), up_ne (by omega), h6, w32_id (by omega) (by omega), b_X12_addsHole_46, up_eq, w32_id (by omega) (by omega), show (H : Int) + 1 - 1 = (H : Int) by omega]
/-- both have a hole more -/
theorem rR_hole {H : Nat} {a : Int} (h : rlR v) (hH : v 1 1 = (H : Int)) (hH2 : H < 12) (ha : 0 ≤ a ∧ a < 30) : rlR (pm_up (pm_up (pm_up (pm_up (pm_up (pm_up v 1 1 ((H : Int) + 1)) 15 H a) 68 H a) 64 (90 + H) 1) 64 (102 + H) 1) 63 6 ((H : Int) + 1)) := by
  have u : ∀ c j, ¬ (c = 1 ∧ j = 1) → ¬ (c = 15 ∧ j = H) → ¬ (c = 68 ∧ j = H) → ¬ (c = 64 ∧ (j = 90 + H ∨ j = 102 + H)) → ¬ (c = 63 ∧ j = 6) → pm_up (pm_up (pm_up (pm_up (pm_up (pm_up v 1 1 ((H : Int) + 1)) 15 H a) 68 H a) 64 (90 + H) 1) 64 (102 + H) 1) 63 6 ((H : Int) + 1) c j = v c j := fun c j q1 q2 q3 q4 q5 => by
    rw [up_ne (by omega), up_ne (by omega), up_ne (by omega), up_ne (by omega), up_ne (by omega), up_ne (by omega)]
  have nW : ∀ c j, ¬ dsW c j → pm_up (pm_up (pm_up (pm_up (pm_up (pm_up v 1 1 ((H : Int) + 1)) 15 H a) 68 H a) 64 (90 + H) 1) 64 (102 + H) 1) 63 6 ((H : Int) + 1) c j = v c j := fun c j q => by
    unfold dsW at q
    exact u c j (by omega) (by omega) (by omega) (by omega) (by omega)
  refine rlR_but h (rW_hole (a := a) h.1 hH hH2 ha ?_ ?_ ?_ ?_ ?_ ?_ (fun c j _ q1 q2 q3 q4 q5 => u c j q1 q2 q3 q4 q5)) (rlC_mono (v := v) ?_ ?_ (fun c j q q1 => nW c j (dsC_W q q1)) h.2.1) (fun c j q => nW c j (dsO_W q))
  · simp (disch := omega) only [up_ne, up_eq]
  · simp (disch := omega) only [up_ne, up_eq]
  · simp (disch := omega) only [up_ne, up_eq]
  · simp (disch := omega) only [up_ne, up_eq]
  · simp (disch := omega) only [up_ne, up_eq]
  · simp (disch := omega) only [up_ne, up_eq]
  · simp (disch := omega) only [up_ne, up_eq]
    omega
  · simp (disch := omega) only [up_ne, up_eq]
    omega
theorem opr_hole (h : rlR v) (a : Int) : opR L xs v nX11_hole nX12_hole 0 [(0, a)] := by
  have p1 := h.1.1
  have pL := rW_L h.1
  have pM := rM_L h.1
  have p6 := h.1.2.2.2.1.1
  obtain ⟨H, hH⟩ : ∃ H : Nat, v 1 1 = (H : Int) := ⟨(v 1 1).toNat, by omega⟩
  by_cases g : 0 ≤ a ∧ a < v 11 0
  · by_cases g2 : H < 12
    · refine ⟨(H : Int), pm_up (pm_up v 1 1 ((H : Int) + 1)) 15 H a, _, ?_, ?_, rR_hole (H := H) (a := a) h hH g2 (by omega)⟩
      · have := c_hole_ok (L := L) (xs := xs) (d := 994) (v := v) (a := a) g (by omega) (by omega)
        rw [hH, Int.toNat_natCast] at this
        exact this
      · have q := m_addsHole (L := L) (xs := xs) (d := 998) (v := pm_up (pm_up v 1 1 ((H : Int) + 1)) 15 H a) (H := H) (by rw [up_ne (by omega), up_ne (by omega)]; omega) g2 a
        rw [e_X12_hole, b_X12_hole_0, c_isYard (by rw [up_ne (by omega), up_ne (by omega)]; omega) (by rw [up_ne (by omega), up_ne (by omega)]; omega), up_ne (c := 15) (by omega), up_ne (c := 1) (by omega), qB_some, psh_some]
        simp (disch := omega) only [e_X12_hole, b_X12_hole_0, b_X12_hole_6, b_X12_hole_9, b_X12_hole_13, b_X12_hole_22, b_X12_hole_27, b_X12_hole_32, zb_0, if_pos, if_neg, up_ne, q, qB_some, psh_some, psh_none, and_true, true_and, and_false, false_and, and_self, or_true, true_or, or_false, false_or, not_true_eq_false, not_false_eq_true, ↓reduceIte, Int.reduceEq, Int.reduceLT, Int.reduceLE, Int.reduceToNat, Nat.reduceEqDiff, Nat.reduceAdd]
    · refine opR_no (r := -3) h (c_hole_full (d := 994) g (by omega)) ?_
      simp (disch := omega) only [e_X12_hole, b_X12_hole_0, b_X12_hole_6, b_X12_hole_9, b_X12_hole_13, b_X12_hole_22, b_X12_hole_27, b_X12_hole_32, c_isYard, zb_0, if_pos, if_neg, qB_some, psh_some, psh_none, and_true, true_and, and_false, false_and, and_self, or_true, true_or, or_false, false_or, not_true_eq_false, not_false_eq_true, ↓reduceIte, Int.reduceEq, Int.reduceLT, Int.reduceLE, Int.reduceToNat, Nat.reduceEqDiff, Nat.reduceAdd]
  · refine opR_no (r := -1) h (c_hole_bad (d := 994) g) ?_
    simp (disch := omega) only [e_X12_hole, b_X12_hole_0, b_X12_hole_6, b_X12_hole_9, b_X12_hole_13, b_X12_hole_22, b_X12_hole_27, b_X12_hole_32, c_isYard, zb_0, if_neg, qB_some, psh_some, psh_none, and_true, true_and, and_false, false_and, and_self, or_true, true_or, or_false, false_or, not_true_eq_false, not_false_eq_true, ↓reduceIte, Int.reduceEq, Int.reduceLT, Int.reduceLE, Int.reduceToNat, Nat.reduceEqDiff, Nat.reduceAdd]
theorem cr_addLane {H : Nat} (hH : v 1 2 = (H : Int)) (hH2 : H < 12) (a b : Int) : qE L xs (d + 4) nX9_addLane [(2, 1), (0, a), (0, b)] (qS v) = some (some (0, (H : Int)), qS (pm_up (pm_up (pm_up v 1 2 ((H : Int) + 1)) 16 H a) 17 H b)) := by
  rw [e_X9_addLane, b_X9_addLane_0, if_pos (by omega), b_X9_addLane_9, hH, w32_id (z := (H : Int) + 1) (by omega) (by omega), b_X9_addLane_19, up_eq, w32_id (by omega) (by omega), show (H : Int) + 1 - 1 = (H : Int) by omega, c_set_in 13 _ _ (by omega) (by omega) (by omega) (by rw [hm_13, up_eq]; omega) (by omega), qB_some, psh_none, b_X9_addLane_32, up_ne (by omega), up_eq, w32_id (by omega) (by omega), show (H : Int) + 1 - 1 = (H : Int) by omega, c_set_in 14 _ _ (by omega) (by omega) (by omega) (by rw [hm_14, up_ne (by omega), up_eq]; omega) (by omega), qB_some, psh_none, b_X9_addLane_45, up_ne (by omega), up_ne (by omega), up_eq, w32_id (by omega) (by omega), show (H : Int) + 1 - 1 = (H : Int) by omega]
  rfl
/-- both have a lane more -/
theorem rR_lane {H : Nat} {a b : Int} (h : rlR v) (hH : v 1 2 = (H : Int)) (hH2 : H < 12) (ha : 0 ≤ a ∧ a < 60) (hb : 0 ≤ b ∧ b < 60) : rlR (pm_up (pm_up (pm_up (pm_up (pm_up (pm_up (pm_up (pm_up v 1 2 ((H : Int) + 1)) 16 H a) 17 H b) 69 H a) 70 H b) 64 (114 + H) 1) 64 (126 + H) 1) 63 8 ((H : Int) + 1)) := by
  have u : ∀ c j, ¬ (c = 1 ∧ j = 2) → ¬ ((c = 16 ∨ c = 17) ∧ j = H) → ¬ ((c = 69 ∨ c = 70) ∧ j = H) → ¬ (c = 64 ∧ (j = 114 + H ∨ j = 126 + H)) → ¬ (c = 63 ∧ j = 8) → pm_up (pm_up (pm_up (pm_up (pm_up (pm_up (pm_up (pm_up v 1 2 ((H : Int) + 1)) 16 H a) 17 H b) 69 H a) 70 H b) 64 (114 + H) 1) 64 (126 + H) 1) 63 8 ((H : Int) + 1) c j = v c j := fun c j q1 q2 q3 q4 q5 => by
    rw [up_ne (by omega), up_ne (by omega), up_ne (by omega), up_ne (by omega), up_ne (by omega), up_ne (by omega), up_ne (by omega), up_ne (by omega)]
  have nW : ∀ c j, ¬ dsW c j → pm_up (pm_up (pm_up (pm_up (pm_up (pm_up (pm_up (pm_up v 1 2 ((H : Int) + 1)) 16 H a) 17 H b) 69 H a) 70 H b) 64 (114 + H) 1) 64 (126 + H) 1) 63 8 ((H : Int) + 1) c j = v c j := fun c j q => by
    unfold dsW at q
    exact u c j (by omega) (by omega) (by omega) (by omega) (by omega)
  refine rlR_but h (rW_lane (a := a) (b := b) h.1 hH hH2 ha hb ?_ ?_ ?_ ?_ ?_ ?_ ?_ ?_ (fun c j _ q1 q2 q3 q4 q5 => u c j q1 q2 q3 q4 q5)) (rlC_mono (v := v) ?_ ?_ (fun c j q q1 => nW c j (dsC_W q q1)) h.2.1) (fun c j q => nW c j (dsO_W q))
  · simp (disch := omega) only [up_ne, up_eq]
  · simp (disch := omega) only [up_ne, up_eq]
  · simp (disch := omega) only [up_ne, up_eq]
  · simp (disch := omega) only [up_ne, up_eq]
  · simp (disch := omega) only [up_ne, up_eq]
  · simp (disch := omega) only [up_ne, up_eq]
  · simp (disch := omega) only [up_ne, up_eq]
  · simp (disch := omega) only [up_ne, up_eq]
  · simp (disch := omega) only [up_ne, up_eq]
    omega
  · simp (disch := omega) only [up_ne, up_eq]
    omega
theorem opr_lane (h : rlR v) (y : Int) (hy : y < 2147483648) : opR L xs v nX11_lane nX12_lane 0 [(0, y)] := by
  have p2 := h.1.2.1
  have pL := rW_L h.1
  have pM := rM_L h.1
  have p8 := h.1.2.2.2.1.2
  obtain ⟨H, hH⟩ : ∃ H : Nat, v 1 2 = (H : Int) := ⟨(v 1 2).toNat, by omega⟩
  by_cases g : 0 ≤ y ∧ y / 100 < 2 * v 11 0 ∧ y % 100 < 2 * v 11 0
  · have y1 : w32 (Int.tdiv y 100) = y / 100 := by rw [td_pos 100 (by omega), w32_id (by omega) (by omega)]
    have y2 : Int.tmod y 100 = y % 100 := tm_pos 100 (by omega)
    by_cases g1 : y / 100 = y % 100
    · refine opR_no (r := -1) h ?_ ?_
      · rw [e_X11_lane, b_X11_lane_0, c_arePlaces (by omega) (by omega) y hy, qB_some, psh_some, b_X11_lane_5, zb_0, if_pos g, b_X11_lane_8, y1, y2, if_pos g1, b_X11_lane_19]
      · rw [e_X12_lane, b_X12_lane_0, if_neg (by omega), b_X12_lane_4, y1, c_isPlace (by omega) (by omega), qB_some, psh_some, b_X12_lane_13, zb_0, if_pos (by omega), b_X12_lane_16, y2, c_isPlace (by omega) (by omega), qB_some, psh_some, b_X12_lane_25, zb_0, if_pos (by omega), b_X12_lane_28, y1, y2, if_pos g1, b_X12_lane_39]
    · have mb : ∀ w : Nat → Nat → Int, w 64 140 = v 64 140 → qE L xs 1000 nX12_lane [(2, 63), (0, y)] (qS w) = qG L xs 999 CX12_lane 41 [(2, 63), (0, y)] [] (qS w) := fun w hw => by
        rw [e_X12_lane, b_X12_lane_0, if_neg (by omega), b_X12_lane_4, y1, c_isPlace (by omega) (by omega), qB_some, psh_some, b_X12_lane_13, zb_0, if_pos (by omega), b_X12_lane_16, y2, c_isPlace (by omega) (by omega), qB_some, psh_some, b_X12_lane_25, zb_0, if_pos (by omega), b_X12_lane_28, y1, y2, if_neg g1]
      by_cases g2 : H < 12
      · refine ⟨(H : Int), pm_up (pm_up (pm_up v 1 2 ((H : Int) + 1)) 16 H (y / 100)) 17 H (y % 100), _, ?_, ?_, rR_lane (H := H) (a := y / 100) (b := y % 100) h hH g2 (by omega) (by omega)⟩
        · rw [e_X11_lane, b_X11_lane_0, c_arePlaces (by omega) (by omega) y hy, qB_some, psh_some, b_X11_lane_5, zb_0, if_pos g, b_X11_lane_8, y1, y2, if_neg g1, b_X11_lane_21, if_pos (by omega), b_X11_lane_38, y1, y2, cr_addLane hH g2, qB_some, psh_some, b_X11_lane_53]
        · rw [mb _ (by simp (disch := omega) only [up_ne])]
          simp (disch := omega) only [e_X12_lane, b_X12_lane_0, b_X12_lane_4, b_X12_lane_13, b_X12_lane_16, b_X12_lane_25, b_X12_lane_28, b_X12_lane_39, b_X12_lane_41, b_X12_lane_50, b_X12_lane_53, b_X12_lane_66, b_X12_lane_79, b_X12_lane_92, b_X12_lane_105, b_X12_lane_115, y1, y2, up_ne, up_eq, p8, hH, if_pos, if_neg, w32_id, Int.toNat_natCast, qB_some, psh_some, psh_none, and_true, true_and, and_false, false_and, and_self, or_true, true_or, or_false, false_or, not_true_eq_false, not_false_eq_true, ↓reduceIte, Int.reduceEq, Int.reduceLT, Int.reduceLE, Int.reduceToNat, Nat.reduceEqDiff, Nat.reduceAdd]
          rw [show (114 + (H : Int)).toNat = 114 + H by omega, show (126 + (H : Int)).toNat = 126 + H by omega, show (H : Int) + 1 - 1 = (H : Int) by omega]
      · refine opR_no (r := -3) h ?_ ?_
        · rw [e_X11_lane, b_X11_lane_0, c_arePlaces (by omega) (by omega) y hy, qB_some, psh_some, b_X11_lane_5, zb_0, if_pos g, b_X11_lane_8, y1, y2, if_neg g1, b_X11_lane_21, if_neg (by omega), b_X11_lane_33, b_X11_lane_53]
        · rw [mb v rfl, b_X12_lane_41, if_pos (by omega), b_X12_lane_50]
  · refine opR_no (r := -1) h ?_ ?_
    · rw [e_X11_lane, b_X11_lane_0, c_arePlaces (by omega) (by omega) y hy, qB_some, psh_some, b_X11_lane_5, zb_0, if_neg g, b_X11_lane_19]
    · rw [e_X12_lane, b_X12_lane_0]
      by_cases g1 : y < 0
      · rw [if_pos g1, b_X12_lane_39]
      · have y1 : w32 (Int.tdiv y 100) = y / 100 := by rw [td_pos 100 (by omega), w32_id (by omega) (by omega)]
        have y2 : Int.tmod y 100 = y % 100 := tm_pos 100 (by omega)
        rw [if_neg g1, b_X12_lane_4, y1, c_isPlace (by omega) (by omega), qB_some, psh_some, b_X12_lane_13, zb_0]
        by_cases g2 : y / 100 < 2 * v 11 0
        · rw [if_pos (by omega), b_X12_lane_16, y2, c_isPlace (by omega) (by omega), qB_some, psh_some, b_X12_lane_25, zb_0, if_neg (by omega), b_X12_lane_39]
        · rw [if_neg (by omega), b_X12_lane_39]
end OA2
end
section
/-! CALLS that keep the relation: of, led, count, trace, digs, turn, feed, lend (written by wip/p1/84.opsb.py) -/
section OB2
variable {L : Nat} {xs : Nat → Int} {d : Nat} {v w : Nat → Nat → Int} {k n : Nat}
theorem rlR_or (h : rlR v) (hW : rlW w ∨ ∀ c j, dsW c j → w c j = v c j) (hC : rlC w ∨ ∀ c j, dsC c j → w c j = v c j) (hT : rlT w ∨ ∀ c j, dsT c j → w c j = v c j) (hL : rlL w ∨ ∀ c j, dsL c j → w c j = v c j) (hD : rlD w ∨ ∀ c j, dsD c j → w c j = v c j) (hG : rlG w ∨ ∀ c j, dsG c j → w c j = v c j) (hB : rlB w ∨ ∀ c j, dsB c j → w c j = v c j) (hS : rlS w ∨ ∀ c j, dsS c j → w c j = v c j) (hN : rlN w ∨ ∀ c j, dsN c j → w c j = v c j) : rlR w := by
  obtain ⟨h1, h2, h3, h4, h5, h6, h7, h8, h9⟩ := h
  refine ⟨?_, ?_, ?_, ?_, ?_, ?_, ?_, ?_, ?_⟩
  · rcases hW with q | q
    · exact q
    · exact rlW_cg q h1
  · rcases hC with q | q
    · exact q
    · exact rlC_cg q h2
  · rcases hT with q | q
    · exact q
    · exact rlT_cg q h3
  · rcases hL with q | q
    · exact q
    · exact rlL_cg q h3 h4
  · rcases hD with q | q
    · exact q
    · exact rlD_cg q h5
  · rcases hG with q | q
    · exact q
    · exact rlG_cg q h6
  · rcases hB with q | q
    · exact q
    · exact rlB_cg q h7
  · rcases hS with q | q
    · exact q
    · exact rlS_cg q h8
  · rcases hN with q | q
    · exact q
    · exact rlN_cg q h9
theorem rG_set (h : rlG v) (e0 : w 63 32 = w 47 0) (e1 : w 63 33 = w 47 1) (e2 : w 63 34 = w 47 2) (e3 : w 63 35 = w 47 3) (hp : 0 ≤ w 47 0 ∧ w 47 0 < 60) (hc : ∀ c j, dsG c j → ¬ (c = 47) → ¬ (c = 63 ∧ j < 36) → w c j = v c j) : rlG w := by
  unfold dsG at hc
  obtain ⟨p1, p2, p3, p4, p5⟩ := h
  refine ⟨⟨e0, e1, e2, e3⟩, hp, ?_, ?_, ?_⟩
  · rw [hc 0 11 (by omega) (by omega) (by omega), hc 48 0 (by omega) (by omega) (by omega), hc 48 1 (by omega) (by omega) (by omega), hc 48 2 (by omega) (by omega) (by omega), hc 48 3 (by omega) (by omega) (by omega), hc 83 0 (by omega) (by omega) (by omega), hc 83 1 (by omega) (by omega) (by omega), hc 83 2 (by omega) (by omega) (by omega), hc 83 3 (by omega) (by omega) (by omega)]
    exact p3
  · rw [hc 0 11 (by omega) (by omega) (by omega), hc 63 36 (by omega) (by omega) (by omega)]
    exact p4
  · rw [hc 0 11 (by omega) (by omega) (by omega)]
    exact p5
theorem opr_of (h : rlR v) (n a : Int) : opR L xs v nX11_of nX12_of 0 [(0, n), (0, a)] := by
  obtain ⟨p1, p2, p3, p4, p5, p6, p7, p8⟩ := h.1
  by_cases g : (0 ≤ a ∧ a < 12) ∧ 0 ≤ n ∧ n < hm v a
  · obtain ⟨k, rfl⟩ : ∃ k : Nat, a = (k : Int) := ⟨a.toNat, by omega⟩
    obtain ⟨m, rfl⟩ : ∃ m : Nat, n = (m : Int) := ⟨n.toNat, by omega⟩
    have hk : k < 12 := by omega
    have hl : (m : Int) < hmN v k := by rw [← hm_N hk]; exact g.2.2
    have hn := hm_cn p1.2 p2.2 hk hl
    have h30 := cn_30 hk hn
    have hM := atM_lt hk hn
    refine opR_no (r := v (3 + k) m) h ?_ ?_
    · rw [e_X11_of, b_X11_of_0, c_has, qB_some, psh_some, b_X11_of_9, zb_0, if_pos g.2, b_X11_of_12, c_value_in k m (by omega) (by omega) (by omega) g.2.2 (by omega), qB_some, psh_some, b_X11_of_21, b_X11_of_26, Int.toNat_natCast, Int.toNat_natCast]
    · rw [e_X12_of, b_X12_of_0, m_placeOf_in p4.1 p4.2 p1.2 p2.2 hk hl, qB_some, psh_some, b_X12_of_6, if_neg (by omega), b_X12_of_11, if_pos (by omega), Int.toNat_natCast, b_X12_of_17, p5 k m hk hn hl]
  · have po := m_placeOf_out (L := L) (xs := xs) (d := 997) p4.1 p4.2 p1 p2 n a g
    have mo : qE L xs 1000 nX12_of [(2, 63), (0, n), (0, a)] (qS v) = qG L xs 999 CX12_of 18 [(2, 63), (0, n), (0, a), (0, -1)] [] (qS v) := by
      rw [e_X12_of, b_X12_of_0, po, qB_some, psh_some, b_X12_of_6, if_pos (by omega)]
    by_cases h12 : a = 12 ∨ a = 13 ∨ a = 14
    · by_cases hn : 0 ≤ n ∧ n < hm v a
      · obtain ⟨m, rfl⟩ : ∃ m : Nat, n = (m : Int) := ⟨n.toNat, by omega⟩
        rcases h12 with rfl | rfl | rfl
        · have q : (m : Int) < v 1 1 := hn.2
          refine opR_no (r := v 15 m) h ?_ ?_
          · rw [e_X11_of, b_X11_of_0, c_has, qB_some, psh_some, b_X11_of_9, zb_0, if_pos hn, b_X11_of_12, c_value_in 12 m (by omega) (by omega) (by omega) hn.2 (by omega), qB_some, psh_some, b_X11_of_21, b_X11_of_26]
            rfl
          · rw [mo, b_X12_of_18, if_pos rfl, b_X12_of_24, c_within, qB_some, psh_some, b_X12_of_37, zb_0, w32_id (by omega) (by omega), if_pos (by omega), b_X12_of_40, if_pos (by omega), Int.toNat_natCast, b_X12_of_46, b_X12_of_51, (p6 m q).1]
        · have q : (m : Int) < v 1 2 := hn.2
          refine opR_no (r := v 16 m) h ?_ ?_
          · rw [e_X11_of, b_X11_of_0, c_has, qB_some, psh_some, b_X11_of_9, zb_0, if_pos hn, b_X11_of_12, c_value_in 13 m (by omega) (by omega) (by omega) hn.2 (by omega), qB_some, psh_some, b_X11_of_21, b_X11_of_26]
            rfl
          · rw [mo, b_X12_of_18, if_neg (by decide), b_X12_of_52, c_within, qB_some, psh_some, b_X12_of_63, zb_0, if_pos (by decide), b_X12_of_66, c_within, qB_some, psh_some, b_X12_of_79, zb_0, w32_id (by omega) (by omega), if_pos (by omega), b_X12_of_82, if_pos rfl, b_X12_of_88, if_pos (by omega), Int.toNat_natCast, b_X12_of_94, b_X12_of_108, (p7 m q).1]
        · have q : (m : Int) < v 1 2 := hn.2
          refine opR_no (r := v 17 m) h ?_ ?_
          · rw [e_X11_of, b_X11_of_0, c_has, qB_some, psh_some, b_X11_of_9, zb_0, if_pos hn, b_X11_of_12, c_value_in 14 m (by omega) (by omega) (by omega) hn.2 (by omega), qB_some, psh_some, b_X11_of_21, b_X11_of_26]
            rfl
          · rw [mo, b_X12_of_18, if_neg (by decide), b_X12_of_52, c_within, qB_some, psh_some, b_X12_of_63, zb_0, if_pos (by decide), b_X12_of_66, c_within, qB_some, psh_some, b_X12_of_79, zb_0, w32_id (by omega) (by omega), if_pos (by omega), b_X12_of_82, if_neg (by decide), b_X12_of_97, if_pos (by omega), Int.toNat_natCast, b_X12_of_103, b_X12_of_108, (p7 m q).2.1]
      · refine opR_no (r := -2000000000) h ?_ ?_
        · rw [e_X11_of, b_X11_of_0, c_has, qB_some, psh_some, b_X11_of_9, zb_0, if_neg hn, b_X11_of_24, b_X11_of_26]
        · rcases h12 with rfl | rfl | rfl
          · have q : ¬ (0 ≤ n ∧ n < v 1 1) := hn
            rw [mo, b_X12_of_18, if_pos rfl, b_X12_of_24, c_within, qB_some, psh_some, b_X12_of_37, zb_0, w32_id (by omega) (by omega), if_neg (by omega), b_X12_of_49, b_X12_of_51]
          · have q : ¬ (0 ≤ n ∧ n < v 1 2) := hn
            rw [mo, b_X12_of_18, if_neg (by decide), b_X12_of_52, c_within, qB_some, psh_some, b_X12_of_63, zb_0, if_pos (by decide), b_X12_of_66, c_within, qB_some, psh_some, b_X12_of_79, zb_0, w32_id (by omega) (by omega), if_neg (by omega), b_X12_of_106, b_X12_of_108]
          · have q : ¬ (0 ≤ n ∧ n < v 1 2) := hn
            rw [mo, b_X12_of_18, if_neg (by decide), b_X12_of_52, c_within, qB_some, psh_some, b_X12_of_63, zb_0, if_pos (by decide), b_X12_of_66, c_within, qB_some, psh_some, b_X12_of_79, zb_0, w32_id (by omega) (by omega), if_neg (by omega), b_X12_of_106, b_X12_of_108]
    · have hz : ¬ (0 ≤ n ∧ n < hm v a) := fun q => by
        by_cases ha : 0 ≤ a ∧ a < 12
        · exact g ⟨ha, q⟩
        · have : hm v a = 0 := by
            unfold hm
            rw [if_neg (by omega), if_neg (by omega), if_neg (by omega), if_neg (by omega), if_neg (by omega)]
          omega
      refine opR_no (r := -2000000000) h ?_ ?_
      · rw [e_X11_of, b_X11_of_0, c_has, qB_some, psh_some, b_X11_of_9, zb_0, if_neg hz, b_X11_of_24, b_X11_of_26]
      · rw [mo, b_X12_of_18, if_neg (by omega), b_X12_of_52, c_within, qB_some, psh_some, b_X12_of_63, zb_0, if_neg (by omega), b_X12_of_106, b_X12_of_108]
theorem opr_led (h : rlR v) (a : Int) : opR L xs v nX11_led nX12_led 0 [(0, a)] := by
  obtain ⟨⟨e0, e1, e2, e3⟩, -⟩ := h.2.2.2.2.2.1
  by_cases h1 : a = 0 ∨ a = 1 ∨ a = 2 ∨ a = 3
  · rcases h1 with rfl | rfl | rfl | rfl
    · exact opR_no (r := v 47 1) h (by simp (disch := omega) only [e_X11_led, b_X11_led_0_v0, b_X11_led_0_v1, b_X11_led_0_v2, b_X11_led_0_v3, b_X11_led_0_o, b_X11_led_32, b_X11_led_40, b_X11_led_48, b_X11_led_56, b_X11_led_64, qB_some, psh_some, psh_none, and_true, true_and, and_false, false_and, and_self, or_true, true_or, or_false, false_or, not_true_eq_false, not_false_eq_true, ↓reduceIte, Int.reduceEq, Int.reduceLT, Int.reduceLE, Int.reduceToNat, Nat.reduceEqDiff, Nat.reduceAdd]) (by simp (disch := omega) only [e_X12_led, b_X12_led_0_v0, b_X12_led_0_v1, b_X12_led_0_v2, b_X12_led_0_v3, b_X12_led_0_o, b_X12_led_32, b_X12_led_37, b_X12_led_42, b_X12_led_47, b_X12_led_52, e1, qB_some, psh_some, psh_none, and_true, true_and, and_false, false_and, and_self, or_true, true_or, or_false, false_or, not_true_eq_false, not_false_eq_true, ↓reduceIte, Int.reduceEq, Int.reduceLT, Int.reduceLE, Int.reduceToNat, Nat.reduceEqDiff, Nat.reduceAdd])
    · exact opR_no (r := v 47 2) h (by simp (disch := omega) only [e_X11_led, b_X11_led_0_v0, b_X11_led_0_v1, b_X11_led_0_v2, b_X11_led_0_v3, b_X11_led_0_o, b_X11_led_32, b_X11_led_40, b_X11_led_48, b_X11_led_56, b_X11_led_64, qB_some, psh_some, psh_none, and_true, true_and, and_false, false_and, and_self, or_true, true_or, or_false, false_or, not_true_eq_false, not_false_eq_true, ↓reduceIte, Int.reduceEq, Int.reduceLT, Int.reduceLE, Int.reduceToNat, Nat.reduceEqDiff, Nat.reduceAdd]) (by simp (disch := omega) only [e_X12_led, b_X12_led_0_v0, b_X12_led_0_v1, b_X12_led_0_v2, b_X12_led_0_v3, b_X12_led_0_o, b_X12_led_32, b_X12_led_37, b_X12_led_42, b_X12_led_47, b_X12_led_52, e2, qB_some, psh_some, psh_none, and_true, true_and, and_false, false_and, and_self, or_true, true_or, or_false, false_or, not_true_eq_false, not_false_eq_true, ↓reduceIte, Int.reduceEq, Int.reduceLT, Int.reduceLE, Int.reduceToNat, Nat.reduceEqDiff, Nat.reduceAdd])
    · exact opR_no (r := v 47 3) h (by simp (disch := omega) only [e_X11_led, b_X11_led_0_v0, b_X11_led_0_v1, b_X11_led_0_v2, b_X11_led_0_v3, b_X11_led_0_o, b_X11_led_32, b_X11_led_40, b_X11_led_48, b_X11_led_56, b_X11_led_64, qB_some, psh_some, psh_none, and_true, true_and, and_false, false_and, and_self, or_true, true_or, or_false, false_or, not_true_eq_false, not_false_eq_true, ↓reduceIte, Int.reduceEq, Int.reduceLT, Int.reduceLE, Int.reduceToNat, Nat.reduceEqDiff, Nat.reduceAdd]) (by simp (disch := omega) only [e_X12_led, b_X12_led_0_v0, b_X12_led_0_v1, b_X12_led_0_v2, b_X12_led_0_v3, b_X12_led_0_o, b_X12_led_32, b_X12_led_37, b_X12_led_42, b_X12_led_47, b_X12_led_52, e3, qB_some, psh_some, psh_none, and_true, true_and, and_false, false_and, and_self, or_true, true_or, or_false, false_or, not_true_eq_false, not_false_eq_true, ↓reduceIte, Int.reduceEq, Int.reduceLT, Int.reduceLE, Int.reduceToNat, Nat.reduceEqDiff, Nat.reduceAdd])
    · exact opR_no (r := v 47 0) h (by simp (disch := omega) only [e_X11_led, b_X11_led_0_v0, b_X11_led_0_v1, b_X11_led_0_v2, b_X11_led_0_v3, b_X11_led_0_o, b_X11_led_32, b_X11_led_40, b_X11_led_48, b_X11_led_56, b_X11_led_64, qB_some, psh_some, psh_none, and_true, true_and, and_false, false_and, and_self, or_true, true_or, or_false, false_or, not_true_eq_false, not_false_eq_true, ↓reduceIte, Int.reduceEq, Int.reduceLT, Int.reduceLE, Int.reduceToNat, Nat.reduceEqDiff, Nat.reduceAdd]) (by simp (disch := omega) only [e_X12_led, b_X12_led_0_v0, b_X12_led_0_v1, b_X12_led_0_v2, b_X12_led_0_v3, b_X12_led_0_o, b_X12_led_32, b_X12_led_37, b_X12_led_42, b_X12_led_47, b_X12_led_52, e0, qB_some, psh_some, psh_none, and_true, true_and, and_false, false_and, and_self, or_true, true_or, or_false, false_or, not_true_eq_false, not_false_eq_true, ↓reduceIte, Int.reduceEq, Int.reduceLT, Int.reduceLE, Int.reduceToNat, Nat.reduceEqDiff, Nat.reduceAdd])
  · refine opR_no (r := -1) h ?_ ?_
    · simp (disch := omega) only [e_X11_led, b_X11_led_0_o, e_X11_led, b_X11_led_0_v0, b_X11_led_0_v1, b_X11_led_0_v2, b_X11_led_0_v3, b_X11_led_0_o, b_X11_led_32, b_X11_led_40, b_X11_led_48, b_X11_led_56, b_X11_led_64, qB_some, psh_some, psh_none, and_true, true_and, and_false, false_and, and_self, or_true, true_or, or_false, false_or, not_true_eq_false, not_false_eq_true, ↓reduceIte, Int.reduceEq, Int.reduceLT, Int.reduceLE, Int.reduceToNat, Nat.reduceEqDiff, Nat.reduceAdd]
    · simp (disch := omega) only [e_X12_led, b_X12_led_0_o, e_X12_led, b_X12_led_0_v0, b_X12_led_0_v1, b_X12_led_0_v2, b_X12_led_0_v3, b_X12_led_0_o, b_X12_led_32, b_X12_led_37, b_X12_led_42, b_X12_led_47, b_X12_led_52, qB_some, psh_some, psh_none, and_true, true_and, and_false, false_and, and_self, or_true, true_or, or_false, false_or, not_true_eq_false, not_false_eq_true, ↓reduceIte, Int.reduceEq, Int.reduceLT, Int.reduceLE, Int.reduceToNat, Nat.reduceEqDiff, Nat.reduceAdd]
theorem opr_count (h : rlR v) (a : Int) : opR L xs v nX11_count nX12_count 0 [(0, a)] := by
  have e0 := h.1.2.2.2.1.1
  have e1 := h.1.2.2.2.1.2
  have e2 := h.2.2.1.1
  have e3 := h.2.1.2.1.1
  have e4 := h.2.2.2.2.2.2.1.2.1
  have e5 := h.2.2.2.2.2.2.1.2.2.2.1
  by_cases h1 : a = 0 ∨ a = 1 ∨ a = 2 ∨ a = 3 ∨ a = 4 ∨ a = 5
  · rcases h1 with rfl | rfl | rfl | rfl | rfl | rfl
    · exact opR_no (r := v 1 1) h (by simp (disch := omega) only [e_X11_count, b_X11_count_0_v0, b_X11_count_0_v1, b_X11_count_0_v2, b_X11_count_0_v3, b_X11_count_0_v4, b_X11_count_0_v5, b_X11_count_0_o, b_X11_count_40, b_X11_count_48, b_X11_count_56, b_X11_count_64, b_X11_count_72, b_X11_count_80, b_X11_count_88, qB_some, psh_some, psh_none, and_true, true_and, and_false, false_and, and_self, or_true, true_or, or_false, false_or, not_true_eq_false, not_false_eq_true, ↓reduceIte, Int.reduceEq, Int.reduceLT, Int.reduceLE, Int.reduceToNat, Nat.reduceEqDiff, Nat.reduceAdd]) (by simp (disch := omega) only [e_X12_count, b_X12_count_0_v0, b_X12_count_0_v1, b_X12_count_0_v2, b_X12_count_0_v3, b_X12_count_0_v4, b_X12_count_0_v5, b_X12_count_0_o, b_X12_count_40, b_X12_count_45, b_X12_count_50, b_X12_count_55, b_X12_count_60, b_X12_count_65, b_X12_count_70, e0, qB_some, psh_some, psh_none, and_true, true_and, and_false, false_and, and_self, or_true, true_or, or_false, false_or, not_true_eq_false, not_false_eq_true, ↓reduceIte, Int.reduceEq, Int.reduceLT, Int.reduceLE, Int.reduceToNat, Nat.reduceEqDiff, Nat.reduceAdd])
    · exact opR_no (r := v 1 2) h (by simp (disch := omega) only [e_X11_count, b_X11_count_0_v0, b_X11_count_0_v1, b_X11_count_0_v2, b_X11_count_0_v3, b_X11_count_0_v4, b_X11_count_0_v5, b_X11_count_0_o, b_X11_count_40, b_X11_count_48, b_X11_count_56, b_X11_count_64, b_X11_count_72, b_X11_count_80, b_X11_count_88, qB_some, psh_some, psh_none, and_true, true_and, and_false, false_and, and_self, or_true, true_or, or_false, false_or, not_true_eq_false, not_false_eq_true, ↓reduceIte, Int.reduceEq, Int.reduceLT, Int.reduceLE, Int.reduceToNat, Nat.reduceEqDiff, Nat.reduceAdd]) (by simp (disch := omega) only [e_X12_count, b_X12_count_0_v0, b_X12_count_0_v1, b_X12_count_0_v2, b_X12_count_0_v3, b_X12_count_0_v4, b_X12_count_0_v5, b_X12_count_0_o, b_X12_count_40, b_X12_count_45, b_X12_count_50, b_X12_count_55, b_X12_count_60, b_X12_count_65, b_X12_count_70, e1, qB_some, psh_some, psh_none, and_true, true_and, and_false, false_and, and_self, or_true, true_or, or_false, false_or, not_true_eq_false, not_false_eq_true, ↓reduceIte, Int.reduceEq, Int.reduceLT, Int.reduceLE, Int.reduceToNat, Nat.reduceEqDiff, Nat.reduceAdd])
    · exact opR_no (r := v 23 10) h (by simp (disch := omega) only [e_X11_count, b_X11_count_0_v0, b_X11_count_0_v1, b_X11_count_0_v2, b_X11_count_0_v3, b_X11_count_0_v4, b_X11_count_0_v5, b_X11_count_0_o, b_X11_count_40, b_X11_count_48, b_X11_count_56, b_X11_count_64, b_X11_count_72, b_X11_count_80, b_X11_count_88, qB_some, psh_some, psh_none, and_true, true_and, and_false, false_and, and_self, or_true, true_or, or_false, false_or, not_true_eq_false, not_false_eq_true, ↓reduceIte, Int.reduceEq, Int.reduceLT, Int.reduceLE, Int.reduceToNat, Nat.reduceEqDiff, Nat.reduceAdd]) (by simp (disch := omega) only [e_X12_count, b_X12_count_0_v0, b_X12_count_0_v1, b_X12_count_0_v2, b_X12_count_0_v3, b_X12_count_0_v4, b_X12_count_0_v5, b_X12_count_0_o, b_X12_count_40, b_X12_count_45, b_X12_count_50, b_X12_count_55, b_X12_count_60, b_X12_count_65, b_X12_count_70, e2, qB_some, psh_some, psh_none, and_true, true_and, and_false, false_and, and_self, or_true, true_or, or_false, false_or, not_true_eq_false, not_false_eq_true, ↓reduceIte, Int.reduceEq, Int.reduceLT, Int.reduceLE, Int.reduceToNat, Nat.reduceEqDiff, Nat.reduceAdd])
    · exact opR_no (r := v 18 4) h (by simp (disch := omega) only [e_X11_count, b_X11_count_0_v0, b_X11_count_0_v1, b_X11_count_0_v2, b_X11_count_0_v3, b_X11_count_0_v4, b_X11_count_0_v5, b_X11_count_0_o, b_X11_count_40, b_X11_count_48, b_X11_count_56, b_X11_count_64, b_X11_count_72, b_X11_count_80, b_X11_count_88, qB_some, psh_some, psh_none, and_true, true_and, and_false, false_and, and_self, or_true, true_or, or_false, false_or, not_true_eq_false, not_false_eq_true, ↓reduceIte, Int.reduceEq, Int.reduceLT, Int.reduceLE, Int.reduceToNat, Nat.reduceEqDiff, Nat.reduceAdd]) (by simp (disch := omega) only [e_X12_count, b_X12_count_0_v0, b_X12_count_0_v1, b_X12_count_0_v2, b_X12_count_0_v3, b_X12_count_0_v4, b_X12_count_0_v5, b_X12_count_0_o, b_X12_count_40, b_X12_count_45, b_X12_count_50, b_X12_count_55, b_X12_count_60, b_X12_count_65, b_X12_count_70, e3, qB_some, psh_some, psh_none, and_true, true_and, and_false, false_and, and_self, or_true, true_or, or_false, false_or, not_true_eq_false, not_false_eq_true, ↓reduceIte, Int.reduceEq, Int.reduceLT, Int.reduceLE, Int.reduceToNat, Nat.reduceEqDiff, Nat.reduceAdd])
    · exact opR_no (r := v 49 2) h (by simp (disch := omega) only [e_X11_count, b_X11_count_0_v0, b_X11_count_0_v1, b_X11_count_0_v2, b_X11_count_0_v3, b_X11_count_0_v4, b_X11_count_0_v5, b_X11_count_0_o, b_X11_count_40, b_X11_count_48, b_X11_count_56, b_X11_count_64, b_X11_count_72, b_X11_count_80, b_X11_count_88, qB_some, psh_some, psh_none, and_true, true_and, and_false, false_and, and_self, or_true, true_or, or_false, false_or, not_true_eq_false, not_false_eq_true, ↓reduceIte, Int.reduceEq, Int.reduceLT, Int.reduceLE, Int.reduceToNat, Nat.reduceEqDiff, Nat.reduceAdd]) (by simp (disch := omega) only [e_X12_count, b_X12_count_0_v0, b_X12_count_0_v1, b_X12_count_0_v2, b_X12_count_0_v3, b_X12_count_0_v4, b_X12_count_0_v5, b_X12_count_0_o, b_X12_count_40, b_X12_count_45, b_X12_count_50, b_X12_count_55, b_X12_count_60, b_X12_count_65, b_X12_count_70, e4, qB_some, psh_some, psh_none, and_true, true_and, and_false, false_and, and_self, or_true, true_or, or_false, false_or, not_true_eq_false, not_false_eq_true, ↓reduceIte, Int.reduceEq, Int.reduceLT, Int.reduceLE, Int.reduceToNat, Nat.reduceEqDiff, Nat.reduceAdd])
    · exact opR_no (r := v 49 3) h (by simp (disch := omega) only [e_X11_count, b_X11_count_0_v0, b_X11_count_0_v1, b_X11_count_0_v2, b_X11_count_0_v3, b_X11_count_0_v4, b_X11_count_0_v5, b_X11_count_0_o, b_X11_count_40, b_X11_count_48, b_X11_count_56, b_X11_count_64, b_X11_count_72, b_X11_count_80, b_X11_count_88, qB_some, psh_some, psh_none, and_true, true_and, and_false, false_and, and_self, or_true, true_or, or_false, false_or, not_true_eq_false, not_false_eq_true, ↓reduceIte, Int.reduceEq, Int.reduceLT, Int.reduceLE, Int.reduceToNat, Nat.reduceEqDiff, Nat.reduceAdd]) (by simp (disch := omega) only [e_X12_count, b_X12_count_0_v0, b_X12_count_0_v1, b_X12_count_0_v2, b_X12_count_0_v3, b_X12_count_0_v4, b_X12_count_0_v5, b_X12_count_0_o, b_X12_count_40, b_X12_count_45, b_X12_count_50, b_X12_count_55, b_X12_count_60, b_X12_count_65, b_X12_count_70, e5, qB_some, psh_some, psh_none, and_true, true_and, and_false, false_and, and_self, or_true, true_or, or_false, false_or, not_true_eq_false, not_false_eq_true, ↓reduceIte, Int.reduceEq, Int.reduceLT, Int.reduceLE, Int.reduceToNat, Nat.reduceEqDiff, Nat.reduceAdd])
  · refine opR_no (r := -1) h ?_ ?_
    · simp (disch := omega) only [e_X11_count, b_X11_count_0_v0, b_X11_count_0_v1, b_X11_count_0_v2, b_X11_count_0_v3, b_X11_count_0_v4, b_X11_count_0_v5, b_X11_count_0_o, b_X11_count_40, b_X11_count_48, b_X11_count_56, b_X11_count_64, b_X11_count_72, b_X11_count_80, b_X11_count_88, qB_some, psh_some, psh_none, and_true, true_and, and_false, false_and, and_self, or_true, true_or, or_false, false_or, not_true_eq_false, not_false_eq_true, ↓reduceIte, Int.reduceEq, Int.reduceLT, Int.reduceLE, Int.reduceToNat, Nat.reduceEqDiff, Nat.reduceAdd]
    · simp (disch := omega) only [e_X12_count, b_X12_count_0_v0, b_X12_count_0_v1, b_X12_count_0_v2, b_X12_count_0_v3, b_X12_count_0_v4, b_X12_count_0_v5, b_X12_count_0_o, b_X12_count_40, b_X12_count_45, b_X12_count_50, b_X12_count_55, b_X12_count_60, b_X12_count_65, b_X12_count_70, qB_some, psh_some, psh_none, and_true, true_and, and_false, false_and, and_self, or_true, true_or, or_false, false_or, not_true_eq_false, not_false_eq_true, ↓reduceIte, Int.reduceEq, Int.reduceLT, Int.reduceLE, Int.reduceToNat, Nat.reduceEqDiff, Nat.reduceAdd]
theorem opr_trace (h : rlR v) (a : Int) : opR L xs v nX11_trace nX12_trace 0 [(0, a)] := by
  obtain ⟨-, -, -, e5, e6, e7⟩ := h.2.2.2.2.2.2.1
  have tn : ∀ d, qE L xs (d + 1) nX0_tracedNow [(2, 49)] (qS v) = some (some (0, pm_min (v 49 3) 24), qS v) := fun d => by
    simp only [e_X0_tracedNow, b_X0_tracedNow_0, qB_some, psh_some, psh_none, and_true, true_and, and_false, false_and, and_self, or_true, true_or, or_false, false_or, not_true_eq_false, not_false_eq_true, ↓reduceIte, Int.reduceEq, Int.reduceLT, Int.reduceLE, Int.reduceToNat, Nat.reduceEqDiff, Nat.reduceAdd]
  have tm := mn_le (v 49 3) 24
  by_cases g : 0 ≤ a ∧ a < v 49 3 ∧ a < 24
  · obtain ⟨i, rfl⟩ : ∃ i : Nat, a = (i : Int) := ⟨a.toNat, by omega⟩
    refine opR_no (r := v 51 i) h ?_ ?_
    · rw [e_X11_trace, b_X11_trace_0, if_neg (by omega), b_X11_trace_4, tn, qB_some, psh_some, b_X11_trace_12, if_pos (by omega), b_X11_trace_15, e_X0_traced, b_X0_traced_0, if_neg (by omega), b_X0_traced_4, tn, qB_some, psh_some, b_X0_traced_9, if_pos (by omega), b_X0_traced_12, if_pos (by omega), Int.toNat_natCast, b_X0_traced_18, b_X0_traced_22, qB_some, psh_some, b_X11_trace_23, b_X11_trace_27]
    · rw [e_X12_trace, b_X12_trace_0, if_neg (by omega), b_X12_trace_4, if_pos (by omega), b_X12_trace_12, if_pos (by omega), b_X12_trace_18, if_pos (by omega), Int.toNat_natCast, b_X12_trace_24, b_X12_trace_28, e7 i (by omega) (by omega)]
  · refine opR_no (r := -1) h ?_ ?_
    · rw [e_X11_trace, b_X11_trace_0]
      by_cases g1 : a < 0
      · rw [if_pos g1, b_X11_trace_26, b_X11_trace_27]
      · rw [if_neg g1, b_X11_trace_4, tn, qB_some, psh_some, b_X11_trace_12, if_neg (by omega), b_X11_trace_26, b_X11_trace_27]
    · rw [e_X12_trace, b_X12_trace_0]
      by_cases g1 : a < 0
      · rw [if_pos g1, b_X12_trace_27, b_X12_trace_28]
      · rw [if_neg g1, b_X12_trace_4]
        by_cases g2 : a < v 49 3
        · rw [if_pos (by omega), b_X12_trace_12, if_neg (by omega), b_X12_trace_27, b_X12_trace_28]
        · rw [if_neg (by omega), b_X12_trace_27, b_X12_trace_28]
theorem opr_digs (h : rlR v) : opR L xs v nX11_digs nX12_digs 0 [] := by
  have p1 := h.1.1
  have pL := rW_L h.1
  have pM := rM_L h.1
  have p6 := h.1.2.2.2.1.1
  have hG := h.2.2.2.2.2.1
  obtain ⟨⟨e0, e1, e2, e3⟩, q1, -⟩ := hG
  obtain ⟨H, hH⟩ : ∃ H : Nat, v 1 1 = (H : Int) := ⟨(v 1 1).toNat, by omega⟩
  by_cases g2 : H < 12
  · by_cases g : v 47 0 < 2 * v 11 0
    · have hd : w32 (Int.tdiv (v 47 0) 2) = v 47 0 / 2 := by rw [td_pos 2 (by omega), w32_id (by omega) (by omega)]
      obtain ⟨w1, hw1⟩ : ∃ w1, w1 = pm_up (pm_up v 47 1 (w32 (v 47 1 + 60))) 47 3 (w32 (v 47 3 + 1)) := ⟨_, rfl⟩
      obtain ⟨w2, hw2⟩ : ∃ w2, w2 = pm_up (pm_up w1 1 1 ((H : Int) + 1)) 15 H (v 47 0 / 2) := ⟨_, rfl⟩
      obtain ⟨w3, hw3⟩ : ∃ w3, w3 = pm_up (pm_up w2 63 33 (w32 (v 47 1 + 60))) 63 35 (w32 (v 47 3 + 1)) := ⟨_, rfl⟩
      obtain ⟨w4, hw4⟩ : ∃ w4, w4 = pm_up (pm_up (pm_up (pm_up w3 68 H (v 47 0 / 2)) 64 (90 + H) 1) 64 (102 + H) 1) 63 6 ((H : Int) + 1) := ⟨_, rfl⟩
      have hu : ∀ c j, ¬ (c = 47 ∧ (j = 1 ∨ j = 3) ∨ c = 1 ∧ j = 1 ∨ c = 15 ∧ j = H ∨ c = 63 ∧ (j = 33 ∨ j = 35 ∨ j = 6) ∨ c = 68 ∧ j = H ∨ c = 64 ∧ (j = 90 + H ∨ j = 102 + H)) → w4 c j = v c j := fun c j q => by
        rw [hw4, up_ne (by omega), up_ne (by omega), up_ne (by omega), up_ne (by omega), hw3, up_ne (by omega), up_ne (by omega), hw2, up_ne (by omega), up_ne (by omega), hw1, up_ne (by omega), up_ne (by omega)]
      refine ⟨(H : Int), w2, w4, ?_, ?_, ?_⟩
      · have ah := c_addHole (L := L) (xs := xs) (d := 995) (v := w1) (by rw [hw1, up_ne (by omega), up_ne (by omega)]; omega) (by rw [hw1, up_ne (by omega), up_ne (by omega)]; omega) (v 47 0 / 2)
        rw [show w1 1 1 = (H : Int) by rw [hw1, up_ne (by omega), up_ne (by omega)]; exact hH, Int.toNat_natCast, ← hw2] at ah
        rw [e_X11_digs, b_X11_digs_0, if_pos (by omega), b_X11_digs_15, c_hasPlace (by omega) (by omega), qB_some, psh_some, b_X11_digs_29, zb_0, if_pos (by omega), b_X11_digs_35, b_X11_digs_49, up_ne (by omega), ← hw1, b_X11_digs_62, show w1 47 0 = v 47 0 by rw [hw1, up_ne (by omega), up_ne (by omega)], hd, ah, qB_some, psh_some, b_X11_digs_78]
      · have k0 : w2 63 6 = (H : Int) := by rw [hw2, up_ne (by omega), up_ne (by omega), hw1, up_ne (by omega), up_ne (by omega)]; omega
        have k1 : w2 63 32 = v 47 0 := by rw [hw2, up_ne (by omega), up_ne (by omega), hw1, up_ne (by omega), up_ne (by omega)]; exact e0
        have k2 : w2 63 33 = v 47 1 := by rw [hw2, up_ne (by omega), up_ne (by omega), hw1, up_ne (by omega), up_ne (by omega)]; exact e1
        have k3 : w2 63 35 = v 47 3 := by rw [hw2, up_ne (by omega), up_ne (by omega), hw1, up_ne (by omega), up_ne (by omega)]; exact e3
        have k4 : w2 64 140 = v 11 0 := by rw [hw2, up_ne (by omega), up_ne (by omega), hw1, up_ne (by omega), up_ne (by omega)]; exact pM
        have ah := m_addsHole (L := L) (xs := xs) (d := 998) (v := w3) (H := H) (by rw [hw3, up_ne (by omega), up_ne (by omega)]; exact k0) g2 (v 47 0 / 2)
        rw [← hw4] at ah
        rw [e_X12_digs, b_X12_digs_0, k0, if_neg (by omega), b_X12_digs_12, k1, c_isPlace (by omega) (by omega), k4, qB_some, psh_some, b_X12_digs_21, zb_0, if_pos (by omega), b_X12_digs_27, k2, b_X12_digs_38, up_ne (by omega), k3, ← hw3, b_X12_digs_48, show w3 63 32 = v 47 0 by rw [hw3, up_ne (by omega), up_ne (by omega)]; exact k1, hd, ah, qB_some, psh_some, b_X12_digs_58]
      · have hW : rlW w4 := by
          refine rW_hole (a := v 47 0 / 2) h.1 hH g2 (by omega) ?_ ?_ ?_ ?_ ?_ ?_ (fun c j q z1 z2 z3 z4 z5 => hu c j (by unfold dsW at q; omega))
          · rw [hw4, hw3, hw2]; simp (disch := omega) only [up_ne, up_eq]
          · rw [hw4, hw3, hw2]; simp (disch := omega) only [up_ne, up_eq]
          · rw [hw4]; simp (disch := omega) only [up_ne, up_eq]
          · rw [hw4]; simp (disch := omega) only [up_ne, up_eq]
          · rw [hw4]; simp (disch := omega) only [up_ne, up_eq]
          · rw [hw4]; simp (disch := omega) only [up_ne, up_eq]
        have hC : rlC w4 := rlC_mono (v := v) (by rw [hw4, hw3, hw2]; simp (disch := omega) only [up_ne, up_eq]; omega) (by rw [hu 1 2 (by omega)]; omega) (fun c j q z => hu c j (by unfold dsC at q; omega)) h.2.1
        have hG4 : rlG w4 := by
          refine rG_set h.2.2.2.2.2.1 ?_ ?_ ?_ ?_ ?_ (fun c j q z1 z2 => hu c j (by unfold dsG at q; omega))
          · rw [hu 63 32 (by omega), hu 47 0 (by omega)]; exact e0
          · rw [hw4, hw3, hw2, hw1]; simp (disch := omega) only [up_ne, up_eq]
          · rw [hu 63 34 (by omega), hu 47 2 (by omega)]; exact e2
          · rw [hw4, hw3, hw2, hw1]; simp (disch := omega) only [up_ne, up_eq]
          · rw [hu 47 0 (by omega)]; exact q1
        exact rlR_or h (Or.inl hW) (Or.inl hC) (Or.inr (fun c j q => hu c j (by unfold dsT at q; omega))) (Or.inr (fun c j q => hu c j (by unfold dsL at q; omega))) (Or.inr (fun c j q => hu c j (by unfold dsD at q; omega))) (Or.inl hG4) (Or.inr (fun c j q => hu c j (by unfold dsB at q; omega))) (Or.inr (fun c j q => hu c j (by unfold dsS at q; omega))) (Or.inr (fun c j q => hu c j (by unfold dsN at q; omega)))
    · refine opR_no (r := -5) h ?_ ?_
      · rw [e_X11_digs, b_X11_digs_0, if_pos (by omega), b_X11_digs_15, c_hasPlace (by omega) (by omega), qB_some, psh_some, b_X11_digs_29, zb_0, if_neg (by omega), b_X11_digs_32]
      · rw [e_X12_digs, b_X12_digs_0, if_neg (by omega), b_X12_digs_12, c_isPlace (by omega) (by omega), qB_some, psh_some, b_X12_digs_21, zb_0, if_neg (by omega), b_X12_digs_24]
  · refine opR_no (r := -3) h ?_ ?_
    · rw [e_X11_digs, b_X11_digs_0, if_neg (by omega), b_X11_digs_12]
    · rw [e_X12_digs, b_X12_digs_0, if_pos (by omega), b_X12_digs_9]
theorem opr_turn (h : rlR v) (a b : Int) : opR L xs v nX11_turn nX12_turn 0 [(0, a), (0, b)] := by
  obtain ⟨p1, p2, p3, p4, p5, p6, p7, p8⟩ := h.1
  have pL := rW_L h.1
  have pM := rM_L h.1
  obtain ⟨⟨e0, e1, e2, e3⟩, q1, -⟩ := h.2.2.2.2.2.1
  have hd : w32 (Int.tdiv (v 47 0) 2) = v 47 0 / 2 := by rw [td_pos 2 (by omega), w32_id (by omega) (by omega)]
  have a3 : hm v 3 = v 1 1 := rfl
  have a12 : hm v 12 = v 1 1 := rfl
  by_cases g : (0 ≤ a ∧ a < v 1 1) ∧ 0 ≤ b ∧ b ≤ 1
  · obtain ⟨i, rfl⟩ : ∃ i : Nat, a = (i : Int) := ⟨a.toNat, by omega⟩
    have hi : (i : Int) < v 1 1 := g.1.2
    have r15 := p6 i hi
    have r64 := rM_ho h.1 i hi
    have cb : qE L xs 1000 nX11_turn [(2, 0), (0, (i : Int)), (0, b)] (qS v) = (if v 47 0 < 2 * v 11 0 ∧ v 15 i = v 47 0 / 2 then qG L xs 999 CX11_turn 65 [(2, 0), (0, (i : Int)), (0, b), (9, 0)] [] (qS v) else some (some (0, -5), qS v)) := by
      rw [e_X11_turn, b_X11_turn_0, c_has, qB_some, psh_some, b_X11_turn_9, zb_0, if_pos (by omega), b_X11_turn_12, if_neg (by omega), b_X11_turn_16, if_neg (by omega), b_X11_turn_23, c_hasPlace (by omega) (by omega), qB_some, psh_some, b_X11_turn_37, zb_0]
      by_cases z : v 47 0 < 2 * v 11 0
      · rw [if_pos (by omega), b_X11_turn_40, c_value_in 12 i (by omega) (by omega) (by omega) (by omega) (by omega), qB_some, psh_some, show v (3 + (12 : Int).toNat) (i : Int).toNat = v 15 i from rfl, b_X11_turn_50, hd]
        by_cases z2 : v 15 i = v 47 0 / 2
        · rw [if_pos z2, if_pos ⟨z, z2⟩]
        · rw [if_neg z2, if_neg (fun y => z2 y.2), b_X11_turn_62]
      · rw [if_neg (by omega), if_neg (fun y => z y.1), b_X11_turn_62]
    have mb : ∀ w : Nat → Nat → Int, w 63 6 = v 63 6 → w 68 = v 68 → w 63 32 = v 63 32 → w 64 140 = v 64 140 → qE L xs 1000 nX12_turn [(2, 63), (0, (i : Int)), (0, b)] (qS w) = (if v 47 0 < 2 * v 11 0 ∧ v 15 i = v 47 0 / 2 then qG L xs 999 CX12_turn 60 [(2, 63), (0, (i : Int)), (0, b), (9, 0)] [] (qS w) else some (some (0, -5), qS w)) := fun w w1 w2 w3 w4 => by
      rw [e_X12_turn, b_X12_turn_0, c_within, qB_some, psh_some, b_X12_turn_13, zb_0, w1, w32_id (by omega) (by omega), if_pos (by omega), b_X12_turn_16, c_within, qB_some, psh_some, b_X12_turn_23, zb_0, if_pos g.2, b_X12_turn_28, if_pos (by omega), Int.toNat_natCast, w2, r15.1, b_X12_turn_34, w3, e0, hd]
      by_cases z2 : v 15 i = v 47 0 / 2
      · rw [if_pos z2, b_X12_turn_43, w3, e0, hd, c_isYard (by omega) (by omega), qB_some, psh_some, b_X12_turn_54, zb_0]
        by_cases z : v 47 0 < 2 * v 11 0
        · rw [if_pos (by omega), if_pos ⟨z, z2⟩]
        · rw [if_neg (by omega), if_neg (fun y => z y.1), b_X12_turn_57]
      · rw [if_neg z2, if_neg (fun y => z2 y.2), b_X12_turn_57]
    by_cases z : v 47 0 < 2 * v 11 0 ∧ v 15 i = v 47 0 / 2
    · obtain ⟨w1, hw1⟩ : ∃ w1, w1 = pm_up (pm_up v 6 i b) 47 1 (w32 (v 47 1 + 1)) := ⟨_, rfl⟩
      obtain ⟨w2, hw2⟩ : ∃ w2, w2 = pm_up (pm_up w1 64 (90 + i) b) 63 33 (w32 (v 47 1 + 1)) := ⟨_, rfl⟩
      have hu : ∀ c j, ¬ (c = 6 ∧ j = i ∨ c = 47 ∧ j = 1 ∨ c = 64 ∧ j = 90 + i ∨ c = 63 ∧ j = 33) → w2 c j = v c j := fun c j q => by
        rw [hw2, up_ne (by omega), up_ne (by omega), hw1, up_ne (by omega), up_ne (by omega)]
      have hu1 : ∀ c j, ¬ (c = 6 ∧ j = i ∨ c = 47 ∧ j = 1) → w1 c j = v c j := fun c j q => by
        rw [hw1, up_ne (by omega), up_ne (by omega)]
      refine ⟨v 6 i, w1, w2, ?_, ?_, ?_⟩
      · rw [cb, if_pos z, b_X11_turn_65, c_value_in 3 i (by omega) (by omega) (by omega) (by omega) (by omega), qB_some, psh_some, show v (3 + (3 : Int).toNat) (i : Int).toNat = v 6 i from rfl, b_X11_turn_74, c_set_in 3 i b (by omega) (by omega) (by omega) (by omega) (by omega), qB_some, psh_none, show pm_up v (3 + (3 : Int).toNat) (i : Int).toNat b = pm_up v 6 i b from rfl, b_X11_turn_85, up_ne (by omega), ← hw1, b_X11_turn_98]
      · rw [mb w1 (hu1 63 6 (by omega)) (funext (fun j => hu1 68 j (by omega))) (hu1 63 32 (by omega)) (hu1 64 140 (by omega)), if_pos z, b_X12_turn_60, w32_id (by omega) (by omega), if_pos (by omega), show (90 + (i : Int)).toNat = 90 + i by omega, hu1 64 (90 + i) (by omega), r64, b_X12_turn_69, w32_id (by omega) (by omega), if_pos (by omega), show (90 + (i : Int)).toNat = 90 + i by omega, b_X12_turn_80, up_ne (by omega), hu1 63 33 (by omega), e1, ← hw2, b_X12_turn_90]
      · have hW : rlW w2 := by
          refine rW_set (k := 3) (n := i) (z := b) h.1 (by omega) (by show i < 12; omega) hi ⟨g.2.1, g.2.2⟩ ?_ ?_ (fun c j q z1 z2 => hu c j ?_)
          · show w2 6 i = b
            rw [hw2, hw1]; simp (disch := omega) only [up_ne, up_eq]
          · show w2 64 (90 + i) = b
            rw [hw2, hw1]; simp (disch := omega) only [up_ne, up_eq]
          · have z2' : ¬ (c = 64 ∧ j = 90 + i) := z2
            unfold dsW at q
            omega
        have hG2 : rlG w2 := by
          refine rG_set h.2.2.2.2.2.1 ?_ ?_ ?_ ?_ ?_ (fun c j q z1 z2 => hu c j (by unfold dsG at q; omega))
          · rw [hu 63 32 (by omega), hu 47 0 (by omega)]; exact e0
          · rw [hw2, hw1]; simp (disch := omega) only [up_ne, up_eq]
          · rw [hu 63 34 (by omega), hu 47 2 (by omega)]; exact e2
          · rw [hu 63 35 (by omega), hu 47 3 (by omega)]; exact e3
          · rw [hu 47 0 (by omega)]; exact q1
        exact rlR_or h (Or.inl hW) (Or.inr (fun c j q => hu c j (by unfold dsC at q; omega))) (Or.inr (fun c j q => hu c j (by unfold dsT at q; omega))) (Or.inr (fun c j q => hu c j (by unfold dsL at q; omega))) (Or.inr (fun c j q => hu c j (by unfold dsD at q; omega))) (Or.inl hG2) (Or.inr (fun c j q => hu c j (by unfold dsB at q; omega))) (Or.inr (fun c j q => hu c j (by unfold dsS at q; omega))) (Or.inr (fun c j q => hu c j (by unfold dsN at q; omega)))
    · refine opR_no (r := -5) h ?_ ?_
      · rw [cb, if_neg z]
      · rw [mb v rfl rfl rfl rfl, if_neg z]
  · refine opR_no (r := -1) h ?_ ?_
    · rw [e_X11_turn, b_X11_turn_0, c_has, qB_some, psh_some, b_X11_turn_9, zb_0, a3]
      by_cases g1 : 0 ≤ a ∧ a < v 1 1
      · rw [if_pos g1, b_X11_turn_12]
        by_cases g2 : b < 0
        · rw [if_pos g2, b_X11_turn_21]
        · rw [if_neg g2, b_X11_turn_16, if_pos (by omega), b_X11_turn_21]
      · rw [if_neg g1, b_X11_turn_21]
    · rw [e_X12_turn, b_X12_turn_0, c_within, qB_some, psh_some, b_X12_turn_13, zb_0, w32_id (by omega) (by omega)]
      by_cases g1 : 0 ≤ a ∧ a < v 1 1
      · rw [if_pos (by omega), b_X12_turn_16, c_within, qB_some, psh_some, b_X12_turn_23, zb_0, if_neg (by omega), b_X12_turn_26]
      · rw [if_neg (by omega), b_X12_turn_26]
theorem opr_feed (h : rlR v) (a : Int) : opR L xs v nX11_feed nX12_feed 0 [(0, a)] := by
  obtain ⟨e1, e2, e3, e4⟩ := h.2.2.1
  obtain ⟨F, hF⟩ : ∃ F : Nat, v 23 10 = (F : Int) := ⟨(v 23 10).toNat, by omega⟩
  by_cases g : 0 ≤ a ∧ a ≤ 255
  · by_cases g2 : F < 120
    · obtain ⟨w1, hw1⟩ : ∃ w1, w1 = pm_up (pm_up v 24 F a) 23 10 ((F : Int) + 1) := ⟨_, rfl⟩
      obtain ⟨w2, hw2⟩ : ∃ w2, w2 = pm_up (pm_up w1 71 F a) 63 12 ((F : Int) + 1) := ⟨_, rfl⟩
      have hu : ∀ c j, ¬ (c = 24 ∧ j = F ∨ c = 23 ∧ j = 10 ∨ c = 71 ∧ j = F ∨ c = 63 ∧ j = 12) → w2 c j = v c j := fun c j q => by
        rw [hw2, up_ne (by omega), up_ne (by omega), hw1, up_ne (by omega), up_ne (by omega)]
      refine ⟨(F : Int) + 1, w1, w2, ?_, ?_, ?_⟩
      · rw [e_X11_feed, b_X11_feed_0, if_neg (by omega), b_X11_feed_4, if_neg (by omega), b_X11_feed_13, e_X5_takeByte, b_X5_takeByte_0, if_pos (by omega), b_X5_takeByte_11, if_pos (by omega), hF, Int.toNat_natCast, b_X5_takeByte_21, up_ne (by omega), hF, w32_id (by omega) (by omega), ← hw1, b_X5_takeByte_31, qB_some, psh_some, b_X11_feed_21, if_neg (by decide), b_X11_feed_24, b_X11_feed_36, hw1, up_eq]
      · have k : w1 63 12 = (F : Int) := by rw [hw1, up_ne (by omega), up_ne (by omega)]; omega
        rw [e_X12_feed, b_X12_feed_0, c_within, qB_some, psh_some, b_X12_feed_9, zb_0, if_pos g, b_X12_feed_14, k, if_neg (by omega), b_X12_feed_26, k, if_pos (by omega), Int.toNat_natCast, b_X12_feed_36, up_ne (by omega), k, w32_id (by omega) (by omega), ← hw2, b_X12_feed_46, hw2, up_eq]
      · have hT : rlT w2 := by
          have k1 : w2 23 10 = (F : Int) + 1 := by rw [hw2, hw1]; simp (disch := omega) only [up_ne, up_eq]
          have k2 : w2 63 12 = (F : Int) + 1 := by rw [hw2, up_eq]
          refine ⟨by rw [k1, k2], by rw [k1]; omega, fun i hi => ?_, ?_⟩
          · rw [k1] at hi
            by_cases z : i = F
            · rw [z]
              have k3 : w2 71 F = a := by rw [hw2]; simp (disch := omega) only [up_ne, up_eq]
              have k4 : w2 24 F = a := by rw [hw2, hw1]; simp (disch := omega) only [up_ne, up_eq]
              rw [k3, k4]
              exact ⟨rfl, g⟩
            · rw [hu 71 i (by omega), hu 24 i (by omega)]
              exact e3 i (by omega)
          · rw [hu 23 1 (by omega), hu 23 2 (by omega)]
            exact e4
        exact rlR_or h (Or.inr (fun c j q => hu c j (by unfold dsW at q; omega))) (Or.inr (fun c j q => hu c j (by unfold dsC at q; omega))) (Or.inl hT) (Or.inr (fun c j q => hu c j (by unfold dsL at q; omega))) (Or.inr (fun c j q => hu c j (by unfold dsD at q; omega))) (Or.inr (fun c j q => hu c j (by unfold dsG at q; omega))) (Or.inr (fun c j q => hu c j (by unfold dsB at q; omega))) (Or.inr (fun c j q => hu c j (by unfold dsS at q; omega))) (Or.inr (fun c j q => hu c j (by unfold dsN at q; omega)))
    · refine opR_no (r := -3) h ?_ ?_
      · rw [e_X11_feed, b_X11_feed_0, if_neg (by omega), b_X11_feed_4, if_neg (by omega), b_X11_feed_13, e_X5_takeByte, b_X5_takeByte_0, if_neg (by omega), b_X5_takeByte_9, qB_some, psh_some, b_X11_feed_21, if_pos rfl, b_X11_feed_34, b_X11_feed_36]
      · rw [e_X12_feed, b_X12_feed_0, c_within, qB_some, psh_some, b_X12_feed_9, zb_0, if_pos g, b_X12_feed_14, if_pos (by omega), b_X12_feed_23]
  · refine opR_no (r := -1) h ?_ ?_
    · rw [e_X11_feed, b_X11_feed_0]
      by_cases g1 : a < 0
      · rw [if_pos g1, b_X11_feed_11]
      · rw [if_neg g1, b_X11_feed_4, if_pos (by omega), b_X11_feed_11]
    · rw [e_X12_feed, b_X12_feed_0, c_within, qB_some, psh_some, b_X12_feed_9, zb_0, if_neg g, b_X12_feed_12]
end OB2
end
section
/-! CALLS that keep the relation: lend, tax, image, back (written by wip/p1/85.opsc.py) -/
section OC2
variable {L : Nat} {xs : Nat → Int} {d : Nat} {v w : Nat → Nat → Int} {k n : Nat}
theorem opr_lend (h : rlR v) (y n : Int) (hy : y < 2147483648) : opR L xs v nX11_lend nX12_lend 0 [(0, y), (0, n)] := by
  obtain ⟨⟨hD, hd0⟩, hI⟩ := h.2.2.2.2.1
  by_cases g : (0 ≤ y ∧ y / 10 < 6 ∧ y % 10 < 6 ∧ y / 10 ≠ y % 10) ∧ -99 ≤ n ∧ n ≤ 99
  · obtain ⟨a, ha⟩ : ∃ a : Nat, y / 10 = (a : Int) := ⟨(y / 10).toNat, by omega⟩
    obtain ⟨b, hb⟩ : ∃ b : Nat, y % 10 = (b : Int) := ⟨(y % 10).toNat, by omega⟩
    have y1 : w32 (Int.tdiv y 10) = (a : Int) := by rw [td_pos 10 (by omega), w32_id (by omega) (by omega), ha]
    have y2 : Int.tmod y 10 = (b : Int) := by rw [tm_pos 10 (by omega), hb]
    have i1 : ((a : Int) * 6 + (b : Int)).toNat = 6 * a + b := by omega
    have i2 : w32 (w32 (6 * (a : Int)) + (b : Int)) = ((6 * a + b : Nat) : Int) := by
      rw [w32_id (z := 6 * (a : Int)) (by omega) (by omega), w32_id (by omega) (by omega)]; omega
    have i3 : w32 (w32 ((a : Int) * 6) + (b : Int)) = ((6 * a + b : Nat) : Int) := by
      rw [w32_id (z := (a : Int) * 6) (by omega) (by omega), w32_id (by omega) (by omega)]; omega
    obtain ⟨k, hk⟩ : ∃ k, k = 6 * a + b := ⟨_, rfl⟩
    have hk36 : k < 36 := by omega
    rw [← hk] at i1 i2 i3
    have r := hD k hk36
    have s1 : w32 (v 42 k + n) = v 42 k + n := w32_id (by omega) (by omega)
    by_cases z : 0 ≤ v 42 k + n ∧ v 42 k + n ≤ 999
    · obtain ⟨w1, hw1⟩ : ∃ w1, w1 = pm_up v 42 k (v 42 k + n) := ⟨_, rfl⟩
      obtain ⟨w2, hw2⟩ : ∃ w2, w2 = pm_up w1 79 k (v 42 k + n) := ⟨_, rfl⟩
      have hu : ∀ c j, ¬ ((c = 42 ∨ c = 79) ∧ j = k) → w2 c j = v c j := fun c j q => by
        rw [hw2, up_ne (by omega), hw1, up_ne (by omega)]
      refine ⟨v 42 k + n, w1, w2, ?_, ?_, ?_⟩
      · have st : qE L xs 999 nX2_set [(2, 41), (0, (a : Int)), (0, (b : Int)), (0, v 42 k + n)] (qS v) = some (none, qS w1) := by
          rw [e_X2_set_41, b_X2_set_41_0, cd_hasOwner, qB_some, psh_some, b_X2_set_41_4, zb_0, if_pos (by omega), b_X2_set_41_7, cd_hasOwner, qB_some, psh_some, b_X2_set_41_11, zb_0, if_pos (by omega), b_X2_set_41_14, i3, if_pos (by omega), Int.toNat_natCast, ← hw1, b_X2_set_41_26]
        rw [e_X11_lend, b_X11_lend_0, cd_areOwners y hy, qB_some, psh_some, b_X11_lend_4, zb_0, if_pos g.1, b_X11_lend_7, if_neg (by omega), b_X11_lend_13, if_neg (by omega), b_X11_lend_21, y1, y2, cd_lent _ _ (by omega) (by omega), i1, qB_some, psh_some, b_X11_lend_36, s1, if_neg (by omega), b_X11_lend_43, if_neg (by omega), b_X11_lend_53, y1, y2, st, qB_some, psh_none, b_X11_lend_69]
      · have k1 : w1 79 k = v 42 k := by rw [hw1, up_ne (by omega)]; exact r.1
        rw [e_X12_lend, b_X12_lend_0, md_areOwners y hy, qB_some, psh_some, b_X12_lend_4, zb_0, if_pos g.1, b_X12_lend_7, c_within, qB_some, psh_some, b_X12_lend_18, zb_0, if_pos g.2, b_X12_lend_23, y1, y2, i2, if_pos (by omega), Int.toNat_natCast, k1, b_X12_lend_42, s1, c_within, qB_some, psh_some, b_X12_lend_52, zb_0, if_pos z, b_X12_lend_58, if_pos (by omega), Int.toNat_natCast, k1, b_X12_lend_65, if_pos (by omega), Int.toNat_natCast, s1, ← hw2, b_X12_lend_68, if_pos (by omega), Int.toNat_natCast, hw2, up_eq, b_X12_lend_74]
      · have hD2 : rlD w2 := by
          have a1 : w2 42 k = v 42 k + n := by rw [hw2, up_ne (by omega), hw1, up_eq]
          have a2 : w2 79 k = v 42 k + n := by rw [hw2, up_eq]
          refine ⟨⟨fun i hi => ?_, fun c hc => ?_⟩, fun q => ?_⟩
          · by_cases e : i = k
            · rw [e, a1, a2]
              exact ⟨rfl, z⟩
            · rw [hu 42 i (by omega), hu 79 i (by omega)]
              exact hD i hi
          · rw [hu 42 (7 * c) (by omega)]
            exact hd0 c hc
          · rw [hu 0 11 (by omega)] at q
            have c1 : w2 45 = v 45 := funext (fun j => hu 45 j (by omega))
            have c2 : w2 82 = v 82 := funext (fun j => hu 82 j (by omega))
            rw [c1, c2]
            exact hI q
        exact rlR_or h (Or.inr (fun c j q => hu c j (by unfold dsW at q; omega))) (Or.inr (fun c j q => hu c j (by unfold dsC at q; omega))) (Or.inr (fun c j q => hu c j (by unfold dsT at q; omega))) (Or.inr (fun c j q => hu c j (by unfold dsL at q; omega))) (Or.inl hD2) (Or.inr (fun c j q => hu c j (by unfold dsG at q; omega))) (Or.inr (fun c j q => hu c j (by unfold dsB at q; omega))) (Or.inr (fun c j q => hu c j (by unfold dsS at q; omega))) (Or.inr (fun c j q => hu c j (by unfold dsN at q; omega)))
    · refine opR_no (r := -5) h ?_ ?_
      · rw [e_X11_lend, b_X11_lend_0, cd_areOwners y hy, qB_some, psh_some, b_X11_lend_4, zb_0, if_pos g.1, b_X11_lend_7, if_neg (by omega), b_X11_lend_13, if_neg (by omega), b_X11_lend_21, y1, y2, cd_lent _ _ (by omega) (by omega), i1, qB_some, psh_some, b_X11_lend_36, s1]
        by_cases z2 : v 42 k + n < 0
        · rw [if_pos z2, b_X11_lend_50]
        · rw [if_neg z2, b_X11_lend_43, if_pos (by omega), b_X11_lend_50]
      · rw [e_X12_lend, b_X12_lend_0, md_areOwners y hy, qB_some, psh_some, b_X12_lend_4, zb_0, if_pos g.1, b_X12_lend_7, c_within, qB_some, psh_some, b_X12_lend_18, zb_0, if_pos g.2, b_X12_lend_23, y1, y2, i2, if_pos (by omega), Int.toNat_natCast, r.1, b_X12_lend_42, s1, c_within, qB_some, psh_some, b_X12_lend_52, zb_0, if_neg z, b_X12_lend_55]
  · refine opR_no (r := -1) h ?_ ?_
    · rw [e_X11_lend, b_X11_lend_0, cd_areOwners y hy, qB_some, psh_some, b_X11_lend_4, zb_0]
      by_cases g1 : 0 ≤ y ∧ y / 10 < 6 ∧ y % 10 < 6 ∧ y / 10 ≠ y % 10
      · rw [if_pos g1, b_X11_lend_7]
        by_cases g2 : n < -99
        · rw [if_pos g2, b_X11_lend_19]
        · rw [if_neg g2, b_X11_lend_13, if_pos (by omega), b_X11_lend_19]
      · rw [if_neg g1, b_X11_lend_19]
    · rw [e_X12_lend, b_X12_lend_0, md_areOwners y hy, qB_some, psh_some, b_X12_lend_4, zb_0]
      by_cases g1 : 0 ≤ y ∧ y / 10 < 6 ∧ y % 10 < 6 ∧ y / 10 ≠ y % 10
      · rw [if_pos g1, b_X12_lend_7, c_within, qB_some, psh_some, b_X12_lend_18, zb_0, if_neg (by omega), b_X12_lend_21]
      · rw [if_neg g1, b_X12_lend_21]
/-- warmer than both beside it -/
abbrev wmP (v : Nat → Nat → Int) (Y y : Nat) : Prop := (y = 0 ∨ v 4 (y - 1) < v 4 y) ∧ (y + 1 = Y ∨ v 4 (y + 1) < v 4 y)
def txN (v : Nat → Nat → Int) (Y : Nat) (o : Int) : Nat → Int
  | 0 => 0
  | y + 1 => txN v Y o y + (if v 5 y = o then (if wmP v Y y then 2 else 1) else 0)
theorem txN_in (v : Nat → Nat → Int) (Y : Nat) (o : Int) : ∀ y : Nat, 0 ≤ txN v Y o y ∧ txN v Y o y ≤ 2 * (y : Int)
  | 0 => ⟨Int.le_refl 0, Int.le_refl 0⟩
  | y + 1 => by
    have ih := txN_in v Y o y
    unfold txN
    split
    · split <;> omega
    · omega
theorem cr_isWarmest {Y y : Nat} (h : rlW v) (hY : v 11 0 = (Y : Int)) (hy : y < Y) : qE L xs (d + 4) nX9_isWarmest [(2, 1), (0, (y : Int))] (qS v) = some (some (0, zb (wmP v Y y)), qS v) := by
  have pL := rW_L h
  have a1 : hm v 1 = 30 := rfl
  have A : ∀ x2, qG L xs (d + 3) CX9_isWarmest 23 [(2, 1), (0, (y : Int)), (0, v 4 y)] [] (qS v) = x2 → (y + 1 = Y ∨ v 4 (y + 1) < v 4 y → x2 = some (some (0, 1), qS v)) ∧ (¬ (y + 1 = Y ∨ v 4 (y + 1) < v 4 y) → x2 = some (some (0, 0), qS v)) := fun x2 e => by
    rw [b_X9_isWarmest_23, c_yardsNow, qB_some, psh_some, b_X9_isWarmest_28, w32_id (by omega) (by omega)] at e
    by_cases g : y + 1 = Y
    · rw [if_pos (by omega), b_X9_isWarmest_45, b_X9_isWarmest_50, if_pos (by decide)] at e
      exact ⟨fun _ => e.symm, fun q => absurd (Or.inl g) q⟩
    · rw [if_neg (by omega), b_X9_isWarmest_33, w32_id (by omega) (by omega), show (y : Int) + 1 = ((y + 1 : Nat) : Int) by omega, c_value_in 1 ((y + 1 : Nat) : Int) (by omega) (by omega) (by omega) (by omega) (by omega), qB_some, psh_some, show v (3 + (1 : Int).toNat) (((y + 1 : Nat) : Int)).toNat = v 4 (y + 1) from rfl, b_X9_isWarmest_42] at e
      by_cases g2 : v 4 (y + 1) < v 4 y
      · rw [if_pos g2, b_X9_isWarmest_45, b_X9_isWarmest_50, if_pos (by decide)] at e
        exact ⟨fun _ => e.symm, fun q => absurd (Or.inr g2) q⟩
      · rw [if_neg g2, b_X9_isWarmest_49, b_X9_isWarmest_50, if_pos (by decide)] at e
        exact ⟨fun q => absurd q (by omega), fun _ => e.symm⟩
  have B := A _ rfl
  rw [e_X9_isWarmest, b_X9_isWarmest_0, c_value_in 1 y (by omega) (by omega) (by omega) (by omega) (by omega), qB_some, psh_some, show v (3 + (1 : Int).toNat) (y : Int).toNat = v 4 y from rfl, b_X9_isWarmest_6]
  by_cases g : y = 0
  · rw [if_pos (by omega)]
    by_cases z : y + 1 = Y ∨ v 4 (y + 1) < v 4 y
    · rw [B.1 z, zb_t ⟨Or.inl g, z⟩]
    · rw [B.2 z, zb_f (fun q => z q.2)]
  · rw [if_neg (by omega), b_X9_isWarmest_11, w32_id (by omega) (by omega), show (y : Int) - 1 = ((y - 1 : Nat) : Int) by omega, c_value_in 1 ((y - 1 : Nat) : Int) (by omega) (by omega) (by omega) (by omega) (by omega), qB_some, psh_some, show v (3 + (1 : Int).toNat) (((y - 1 : Nat) : Int)).toNat = v 4 (y - 1) from rfl, b_X9_isWarmest_20]
    by_cases g2 : v 4 (y - 1) < v 4 y
    · rw [if_pos g2]
      by_cases z : y + 1 = Y ∨ v 4 (y + 1) < v 4 y
      · rw [B.1 z, zb_t ⟨Or.inr g2, z⟩]
      · rw [B.2 z, zb_f (fun q => z q.2)]
    · rw [if_neg g2, b_X9_isWarmest_49, b_X9_isWarmest_50, if_pos (by decide), zb_f (fun q => by have := q.1; omega)]
theorem lpr_tax {Y : Nat} (o : Int) (h : rlW v) (hY : v 11 0 = (Y : Int)) : ∀ (n y : Nat), y + n = Y → qG L xs (d + 4) CX11_tax 13 [(2, 0), (0, o), (0, v 14 0 * txN v Y o y), (0, (y : Int))] [] (qS v) = some (some (0, v 14 0 * txN v Y o Y), qS v)
  | 0, y, hy => by
    rw [b_X11_tax_13, c_yardsNow, qB_some, psh_some, b_X11_tax_21, if_neg (by omega), b_X11_tax_73, show y = Y by omega]
  | n + 1, y, hy => by
    have pL := rW_L h
    have pR := rW_R h
    have a2 : hm v 2 = 30 := rfl
    have a11 : hm v 11 = 1 := rfl
    have ih := lpr_tax o h hY n (y + 1) (by omega)
    have ti := txN_in v Y o y
    have mb : 0 ≤ v 14 0 * txN v Y o y ∧ v 14 0 * txN v Y o y ≤ 99 * 60 := ⟨Int.mul_nonneg pR.1 ti.1, Int.mul_le_mul pR.2 (by omega) ti.1 (by decide)⟩
    have e : txN v Y o (y + 1) = txN v Y o y + (if v 5 y = o then (if wmP v Y y then 2 else 1) else 0) := rfl
    refine Eq.trans ?_ ih
    rw [e, b_X11_tax_13, c_yardsNow, qB_some, psh_some, b_X11_tax_21, if_pos (by omega), b_X11_tax_24, c_value_in 2 y (by omega) (by omega) (by omega) (by omega) (by omega), qB_some, psh_some, show v (3 + (2 : Int).toNat) (y : Int).toNat = v 5 y from rfl, b_X11_tax_33]
    by_cases g : v 5 y = o
    · rw [if_pos g, if_pos g, b_X11_tax_37, c_value_in 11 0 (by omega) (by omega) (by omega) (by omega) (by omega), qB_some, psh_some, show v (3 + (11 : Int).toNat) (0 : Int).toNat = v 14 0 from rfl, b_X11_tax_48, cr_isWarmest h hY (by omega), qB_some, psh_some, b_X11_tax_56, zb_0]
      by_cases g2 : wmP v Y y
      · rw [if_pos g2, if_pos g2, b_X11_tax_59, b_X11_tax_64, w32_id (z := v 14 0 * 2) (by omega) (by omega), w32_id (by omega) (by omega), b_X11_tax_67, w32_id (by omega) (by omega), Int.mul_add]
        rfl
      · rw [if_neg g2, if_neg g2, b_X11_tax_63, b_X11_tax_64, w32_id (z := v 14 0 * 1) (by omega) (by omega), w32_id (by omega) (by omega), b_X11_tax_67, w32_id (by omega) (by omega), Int.mul_add]
        rfl
    · rw [if_neg g, if_neg g, b_X11_tax_67, w32_id (by omega) (by omega), Int.add_zero]
      rfl
theorem lpr_mtax {Y : Nat} (o : Int) (h : rlW v) (hY : v 11 0 = (Y : Int)) : ∀ (n y : Nat) (u4 : pm_V), y + n = Y → ∃ w4, qG L xs (d + 2) CX12_tax 13 [(2, 63), (0, o), (0, txN v Y o y), (0, (y : Int)), u4] [] (qS v) = qG L xs (d + 2) CX12_tax 104 [(2, 63), (0, o), (0, txN v Y o Y), (0, (Y : Int)), w4] [] (qS v)
  | 0, y, u4, hy => by
    have pM := rM_L h
    refine ⟨u4, ?_⟩
    rw [b_X12_tax_13, c_yardMany, qB_some, psh_some, b_X12_tax_18, if_neg (by omega), show y = Y by omega]
  | n + 1, y, u4, hy => by
    have pL := rW_L h
    have pM := rM_L h
    have ti := txN_in v Y o y
    have wa : ∀ j : Nat, j < 30 → qE L xs (d + 2) nX12_warmOf [(2, 63), (0, (j : Int))] (qS v) = some (some (0, v 4 j), qS v) := fun j hj => by
      rw [e_X12_warmOf, b_X12_warmOf_0, w32_id (by omega) (by omega), if_pos (by omega), show (30 + (j : Int)).toNat = 30 + j by omega, b_X12_warmOf_9, rM_w h j hj]
    have wo : qE L xs (d + 2) nX12_ownerOf [(2, 63), (0, (y : Int))] (qS v) = some (some (0, v 5 y), qS v) := by
      rw [e_X12_ownerOf, b_X12_ownerOf_0, w32_id (by omega) (by omega), if_pos (by omega), show (60 + (y : Int)).toNat = 60 + y by omega, b_X12_ownerOf_9, rM_o h y (by omega)]
    have e : txN v Y o (y + 1) = txN v Y o y + (if v 5 y = o then (if wmP v Y y then 2 else 1) else 0) := rfl
    have T : ∀ z : Int, (z = 1 ∧ wmP v Y y) ∨ (z = 0 ∧ ¬ wmP v Y y) → qG L xs (d + 2) CX12_tax 70 [(2, 63), (0, o), (0, txN v Y o y), (0, (y : Int)), u4] [(0, z)] (qS v) = qG L xs (d + 2) CX12_tax 13 [(2, 63), (0, o), (0, txN v Y o (y + 1)), (0, ((y + 1 : Nat) : Int)), (0, z)] [] (qS v) := fun z hz => by
      rw [e, b_X12_tax_70, wo, qB_some, psh_some, b_X12_tax_78]
      by_cases g : v 5 y = o
      · rw [if_pos g, if_pos g, b_X12_tax_86]
        rcases hz with ⟨z1, z2⟩ | ⟨z1, z2⟩
        · rw [if_neg (by omega), if_pos z2, b_X12_tax_91, b_X12_tax_96, w32_id (by omega) (by omega), w32_id (by omega) (by omega)]
          rfl
        · rw [if_pos z1, if_neg z2, b_X12_tax_95, b_X12_tax_96, w32_id (by omega) (by omega), w32_id (by omega) (by omega)]
          rfl
      · rw [if_neg g, if_neg g, b_X12_tax_82, b_X12_tax_96, w32_id (by omega) (by omega), w32_id (by omega) (by omega)]
        rfl
    have S : ∃ z : Int, ((z = 1 ∧ wmP v Y y) ∨ (z = 0 ∧ ¬ wmP v Y y)) ∧ qG L xs (d + 2) CX12_tax 13 [(2, 63), (0, o), (0, txN v Y o y), (0, (y : Int)), u4] [] (qS v) = qG L xs (d + 2) CX12_tax 70 [(2, 63), (0, o), (0, txN v Y o y), (0, (y : Int)), u4] [(0, z)] (qS v) := by
      have B : (y = 0 ∨ v 4 (y - 1) < v 4 y) → ∃ z : Int, ((z = 1 ∧ wmP v Y y) ∨ (z = 0 ∧ ¬ wmP v Y y)) ∧ qG L xs (d + 2) CX12_tax 40 [(2, 63), (0, o), (0, txN v Y o y), (0, (y : Int)), u4] [] (qS v) = qG L xs (d + 2) CX12_tax 70 [(2, 63), (0, o), (0, txN v Y o y), (0, (y : Int)), u4] [(0, z)] (qS v) := fun h0 => by
        by_cases g : y + 1 = Y
        · refine ⟨1, Or.inl ⟨rfl, h0, Or.inl g⟩, ?_⟩
          rw [b_X12_tax_40, c_yardMany, qB_some, psh_some, b_X12_tax_47, w32_id (by omega) (by omega), if_pos (by omega), b_X12_tax_65]
        · by_cases g2 : v 4 (y + 1) < v 4 y
          · refine ⟨1, Or.inl ⟨rfl, h0, Or.inr g2⟩, ?_⟩
            rw [b_X12_tax_40, c_yardMany, qB_some, psh_some, b_X12_tax_47, w32_id (by omega) (by omega), if_neg (by omega), b_X12_tax_50, wa y (by omega), qB_some, psh_some, b_X12_tax_55, w32_id (by omega) (by omega), show (y : Int) + 1 = ((y + 1 : Nat) : Int) by omega, wa (y + 1) (by omega), qB_some, psh_some, b_X12_tax_62, if_pos g2, b_X12_tax_65]
          · refine ⟨0, Or.inr ⟨rfl, fun q => by have := q.2; omega⟩, ?_⟩
            rw [b_X12_tax_40, c_yardMany, qB_some, psh_some, b_X12_tax_47, w32_id (by omega) (by omega), if_neg (by omega), b_X12_tax_50, wa y (by omega), qB_some, psh_some, b_X12_tax_55, w32_id (by omega) (by omega), show (y : Int) + 1 = ((y + 1 : Nat) : Int) by omega, wa (y + 1) (by omega), qB_some, psh_some, b_X12_tax_62, if_neg g2, b_X12_tax_69]
      by_cases g : y = 0
      · obtain ⟨z, z1, z2⟩ := B (Or.inl g)
        refine ⟨z, z1, ?_⟩
        rw [b_X12_tax_13, c_yardMany, qB_some, psh_some, b_X12_tax_18, if_pos (by omega), b_X12_tax_21, if_pos (by omega), z2]
      · by_cases g2 : v 4 (y - 1) < v 4 y
        · obtain ⟨z, z1, z2⟩ := B (Or.inr g2)
          refine ⟨z, z1, ?_⟩
          rw [b_X12_tax_13, c_yardMany, qB_some, psh_some, b_X12_tax_18, if_pos (by omega), b_X12_tax_21, if_neg (by omega), b_X12_tax_25, wa y (by omega), qB_some, psh_some, b_X12_tax_30, w32_id (by omega) (by omega), show (y : Int) - 1 = ((y - 1 : Nat) : Int) by omega, wa (y - 1) (by omega), qB_some, psh_some, b_X12_tax_37, if_pos g2, z2]
        · refine ⟨0, Or.inr ⟨rfl, fun q => by have := q.1; omega⟩, ?_⟩
          rw [b_X12_tax_13, c_yardMany, qB_some, psh_some, b_X12_tax_18, if_pos (by omega), b_X12_tax_21, if_neg (by omega), b_X12_tax_25, wa y (by omega), qB_some, psh_some, b_X12_tax_30, w32_id (by omega) (by omega), show (y : Int) - 1 = ((y - 1 : Nat) : Int) by omega, wa (y - 1) (by omega), qB_some, psh_some, b_X12_tax_37, if_neg g2, b_X12_tax_69]
    obtain ⟨z, z1, z2⟩ := S
    obtain ⟨w4, ih⟩ := lpr_mtax o h hY n (y + 1) (0, z) (by omega)
    exact ⟨w4, z2.trans ((T z z1).trans ih)⟩
theorem opr_tax (h : rlR v) (o : Int) : opR L xs v nX11_tax nX12_tax 0 [(0, o)] := by
  have pL := rW_L h.1
  have pR := rW_R h.1
  have mR := rM_R h.1
  obtain ⟨Y, hY⟩ : ∃ Y : Nat, v 11 0 = (Y : Int) := ⟨(v 11 0).toNat, by omega⟩
  by_cases g : 0 ≤ o ∧ o < 6
  · have ti := txN_in v Y o Y
    have mb : 0 ≤ v 14 0 * txN v Y o Y ∧ v 14 0 * txN v Y o Y ≤ 99 * 60 := ⟨Int.mul_nonneg pR.1 ti.1, Int.mul_le_mul pR.2 (by omega) ti.1 (by decide)⟩
    have l1 := lpr_tax (L := L) (xs := xs) (d := 995) o h.1 hY Y 0 (by omega)
    obtain ⟨w4, l2⟩ := lpr_mtax (L := L) (xs := xs) (d := 997) o h.1 hY Y 0 (9, 0) (by omega)
    refine opR_no (r := v 14 0 * txN v Y o Y) h ?_ ?_
    · rw [e_X11_tax, b_X11_tax_0, cd_hasOwner, qB_some, psh_some, b_X11_tax_4, zb_0, if_pos g, b_X11_tax_9]
      have l1' : qG L xs 999 CX11_tax 13 [(2, 0), (0, o), (0, v 14 0 * 0), (0, 0)] [] (qS v) = _ := l1
      rw [Int.mul_zero] at l1'
      exact l1'
    · rw [e_X12_tax, b_X12_tax_0, md_isOwner, qB_some, psh_some, b_X12_tax_4, zb_0, if_pos g, b_X12_tax_9]
      refine Eq.trans l2 ?_
      rw [b_X12_tax_104, mR, Int.mul_comm, w32_id (by omega) (by omega)]
  · refine opR_no (r := -1) h ?_ ?_
    · rw [e_X11_tax, b_X11_tax_0, cd_hasOwner, qB_some, psh_some, b_X11_tax_4, zb_0, if_neg g, b_X11_tax_7]
    · rw [e_X12_tax, b_X12_tax_0, md_isOwner, qB_some, psh_some, b_X12_tax_4, zb_0, if_neg g, b_X12_tax_7]
theorem lpr_img1 : ∀ (n j : Nat) (v : Nat → Nat → Int), j + n = 36 → ∃ v', qG L xs d CX12_image 7 [(2, 63), (0, (j : Int))] [] (qS v) = qG L xs d CX12_image 31 [(2, 63), (0, 36)] [] (qS v') ∧ (∀ c i, ¬ (c = 82 ∧ j ≤ i ∧ i < 36) → v' c i = v c i) ∧ ∀ i, j ≤ i → i < 36 → v' 82 i = v 79 i
  | 0, j, v, hj => by
    have e : j = 36 := by omega
    subst e
    refine ⟨v, ?_, fun _ _ _ => rfl, fun i h1 h2 => by omega⟩
    rw [b_X12_image_7, if_neg (by omega)]
    rfl
  | n + 1, j, v, hj => by
    obtain ⟨v', e1, e2, e3⟩ := lpr_img1 n (j + 1) (pm_up v 82 j (v 79 j)) (by omega)
    refine ⟨v', ?_, fun c i q => ?_, fun i h1 h2 => ?_⟩
    · refine Eq.trans ?_ e1
      rw [b_X12_image_7, if_pos (by omega), b_X12_image_13, if_pos (by omega), Int.toNat_natCast, b_X12_image_24, if_pos (by omega), Int.toNat_natCast, b_X12_image_25, w32_id (by omega) (by omega)]
      rfl
    · rw [e2 c i (by omega), up_ne (by omega)]
    · by_cases z : i = j
      · rw [z, e2 82 j (by omega), up_eq]
      · rw [e3 i (by omega) h2, up_ne (by omega)]
theorem lpr_back1 : ∀ (n j : Nat) (v : Nat → Nat → Int), j + n = 36 → ∃ v', qG L xs d CX12_back 12 [(2, 63), (0, (j : Int))] [] (qS v) = qG L xs d CX12_back 36 [(2, 63), (0, 36)] [] (qS v') ∧ (∀ c i, ¬ (c = 79 ∧ j ≤ i ∧ i < 36) → v' c i = v c i) ∧ ∀ i, j ≤ i → i < 36 → v' 79 i = v 82 i
  | 0, j, v, hj => by
    have e : j = 36 := by omega
    subst e
    refine ⟨v, ?_, fun _ _ _ => rfl, fun i h1 h2 => by omega⟩
    rw [b_X12_back_12, if_neg (by omega)]
    rfl
  | n + 1, j, v, hj => by
    obtain ⟨v', e1, e2, e3⟩ := lpr_back1 n (j + 1) (pm_up v 79 j (v 82 j)) (by omega)
    refine ⟨v', ?_, fun c i q => ?_, fun i h1 h2 => ?_⟩
    · refine Eq.trans ?_ e1
      rw [b_X12_back_12, if_pos (by omega), b_X12_back_18, if_pos (by omega), Int.toNat_natCast, b_X12_back_29, if_pos (by omega), Int.toNat_natCast, b_X12_back_30, w32_id (by omega) (by omega)]
      rfl
    · rw [e2 c i (by omega), up_ne (by omega)]
    · by_cases z : i = j
      · rw [z, e2 79 j (by omega), up_eq]
      · rw [e3 i (by omega) h2, up_ne (by omega)]
end OC2
end
