/-! NUMBERS: Int32, Int64 against Int; lists -/
theorem pm_get_eq {α : Type} : ∀ (l : List α) (i : Nat), pm_get l i = l[i]?
  | [], i => by simp [pm_get]
  | a :: l, 0 => by simp [pm_get]
  | a :: l, n + 1 => by simp [pm_get, pm_get_eq l n]
theorem pm_set_eq {α : Type} : ∀ (l : List α) (i : Nat) (v : α), pm_set l i v = l.set i v
  | [], i, v => by simp [pm_set]
  | a :: l, 0, v => by simp [pm_set]
  | a :: l, n + 1, v => by simp [pm_set, pm_set_eq l n v]
theorem w32_lo (z : Int) : -2147483648 ≤ w32 z ∧ w32 z < 2147483648 := by unfold w32; omega
theorem w64_lo (z : Int) : -9223372036854775808 ≤ w64 z ∧ w64 z < 9223372036854775808 := by unfold w64; omega
theorem w32_id {z : Int} (h1 : -2147483648 ≤ z) (h2 : z < 2147483648) : w32 z = z := by unfold w32; omega
theorem w64_id {z : Int} (h1 : -9223372036854775808 ≤ z) (h2 : z < 9223372036854775808) : w64 z = z := by unfold w64; omega
theorem bmod32 (z : Int) : z.bmod (2 ^ 32) = w32 z := by
  unfold w32
  rw [Int.bmod_def]
  simp only [Int.reducePow, Nat.reducePow]
  split <;> omega
theorem bmod64 (z : Int) : z.bmod (2 ^ 64) = w64 z := by
  unfold w64
  rw [Int.bmod_def]
  simp only [Int.reducePow, Nat.reducePow]
  split <;> omega
theorem i32_ofInt (z : Int) : (Int32.ofInt z).toInt = w32 z := by rw [Int32.toInt_ofInt]; exact bmod32 z
theorem i64_ofInt (z : Int) : (Int64.ofInt z).toInt = w64 z := by rw [Int64.toInt_ofInt]; exact bmod64 z
theorem i32_in {z : Int} (h : -2147483648 ≤ z ∧ z < 2147483648) : (Int32.ofInt z).toInt = z := by rw [i32_ofInt, w32_id h.1 h.2]
theorem i64_in {z : Int} (h : -9223372036854775808 ≤ z ∧ z < 9223372036854775808) : (Int64.ofInt z).toInt = z := by rw [i64_ofInt, w64_id h.1 h.2]
theorem i32_lt (x : Int32) : -2147483648 ≤ x.toInt ∧ x.toInt < 2147483648 := by
  have h1 := Int32.le_toInt x
  have h2 := Int32.toInt_lt x
  omega
theorem i64_lt (x : Int64) : -9223372036854775808 ≤ x.toInt ∧ x.toInt < 9223372036854775808 := by
  have h1 := Int64.le_toInt x
  have h2 := Int64.toInt_lt x
  omega
theorem i32_ext {x y : Int32} (h : x.toInt = y.toInt) : x = y := Int32.toInt_inj.mp h
theorem i64_ext {x y : Int64} (h : x.toInt = y.toInt) : x = y := Int64.toInt_inj.mp h
theorem i32_w (z : Int) : Int32.ofInt (w32 z) = Int32.ofInt z := i32_ext (by rw [i32_ofInt, i32_ofInt]; unfold w32; omega)
theorem i64_w (z : Int) : Int64.ofInt (w64 z) = Int64.ofInt z := i64_ext (by rw [i64_ofInt, i64_ofInt]; unfold w64; omega)
theorem i32_add (x y : Int) : Int32.ofInt x + Int32.ofInt y = Int32.ofInt (w32 (x + y)) := by
  rw [i32_w, Int32.ofInt_add]
theorem i32_sub (x y : Int) : Int32.ofInt x - Int32.ofInt y = Int32.ofInt (w32 (x - y)) := by
  rw [i32_w, Int32.ofInt_sub]
theorem i32_mul (x y : Int) : Int32.ofInt x * Int32.ofInt y = Int32.ofInt (w32 (x * y)) := by
  rw [i32_w, Int32.ofInt_mul]
theorem i32_neg (x : Int) : -Int32.ofInt x = Int32.ofInt (w32 (-x)) := by
  rw [i32_w, Int32.ofInt_neg]
theorem i64_add (x y : Int) : Int64.ofInt x + Int64.ofInt y = Int64.ofInt (w64 (x + y)) := by
  rw [i64_w, Int64.ofInt_add]
theorem i64_sub (x y : Int) : Int64.ofInt x - Int64.ofInt y = Int64.ofInt (w64 (x - y)) := by
  rw [i64_w, Int64.ofInt_sub]
theorem i64_mul (x y : Int) : Int64.ofInt x * Int64.ofInt y = Int64.ofInt (w64 (x * y)) := by
  rw [i64_w, Int64.ofInt_mul]
theorem i32_div {x y : Int} (hx : -2147483648 ≤ x ∧ x < 2147483648) (hy : -2147483648 ≤ y ∧ y < 2147483648) : Int32.ofInt x / Int32.ofInt y = Int32.ofInt (w32 (x.tdiv y)) := by
  apply i32_ext
  rw [i32_w, Int32.toInt_div, i32_in hx, i32_in hy, bmod32, i32_ofInt]
theorem i32_rem {x y : Int} (hx : -2147483648 ≤ x ∧ x < 2147483648) (hy : -2147483648 ≤ y ∧ y < 2147483648) : Int32.ofInt x - Int32.ofInt x / Int32.ofInt y * Int32.ofInt y = Int32.ofInt (x.tmod y) := by
  rw [i32_div hx hy, i32_w]
  rw [← Int32.ofInt_mul, ← Int32.ofInt_sub]
  congr 1
  have := Int.tmod_add_mul_tdiv x y
  rw [Int.mul_comm] at this
  omega
theorem tmod_in {x y : Int} (hx : -2147483648 ≤ x ∧ x < 2147483648) : -2147483648 ≤ x.tmod y ∧ x.tmod y < 2147483648 := by
  have h1 := Int.natAbs_tmod x y
  have h2 := Nat.mod_le x.natAbs y.natAbs
  rcases Int.le_total 0 x with h0 | h0
  · have h3 : 0 ≤ x.tmod y := Int.tmod_nonneg y h0
    omega
  · have e : x.tmod y = -((-x).tmod y) := by rw [Int.neg_tmod, Int.neg_neg]
    have h3 : 0 ≤ (-x).tmod y := Int.tmod_nonneg y (by omega)
    omega
theorem i32_rt (x : Int32) : Int32.ofInt x.toInt = x := Int32.ofInt_toInt x
theorem i64_rt (x : Int64) : Int64.ofInt x.toInt = x := Int64.ofInt_toInt x
theorem i32_eq {x y : Int} (hx : -2147483648 ≤ x ∧ x < 2147483648) (hy : -2147483648 ≤ y ∧ y < 2147483648) : Int32.ofInt x = Int32.ofInt y ↔ x = y :=
  ⟨fun h => by have := congrArg Int32.toInt h; rwa [i32_in hx, i32_in hy] at this, fun h => by rw [h]⟩
theorem i32_ltz {x y : Int} (hx : -2147483648 ≤ x ∧ x < 2147483648) (hy : -2147483648 ≤ y ∧ y < 2147483648) : Int32.ofInt x < Int32.ofInt y ↔ x < y := by
  rw [Int32.lt_iff_toInt_lt, i32_in hx, i32_in hy]
theorem i32_lez {x y : Int} (hx : -2147483648 ≤ x ∧ x < 2147483648) (hy : -2147483648 ≤ y ∧ y < 2147483648) : Int32.ofInt x ≤ Int32.ofInt y ↔ x ≤ y := by
  rw [Int32.le_iff_toInt_le, i32_in hx, i32_in hy]
theorem i64_eq {x y : Int} (hx : -9223372036854775808 ≤ x ∧ x < 9223372036854775808) (hy : -9223372036854775808 ≤ y ∧ y < 9223372036854775808) : Int64.ofInt x = Int64.ofInt y ↔ x = y :=
  ⟨fun h => by have := congrArg Int64.toInt h; rwa [i64_in hx, i64_in hy] at this, fun h => by rw [h]⟩
theorem i64_ltz {x y : Int} (hx : -9223372036854775808 ≤ x ∧ x < 9223372036854775808) (hy : -9223372036854775808 ≤ y ∧ y < 9223372036854775808) : Int64.ofInt x < Int64.ofInt y ↔ x < y := by
  rw [Int64.lt_iff_toInt_lt, i64_in hx, i64_in hy]
theorem i32_nat {z : Int} (h : 0 ≤ z) (h2 : z < 2147483648) : (Int32.ofInt z).toNatClampNeg = z.toNat := by
  show (Int32.ofInt z).toInt.toNat = z.toNat
  rw [i32_in ⟨by omega, h2⟩]
theorem i32_vp {z : Int} {n : Nat} (h : 0 ≤ z) (hn : z < (n : Int)) (hz : z < 2147483648) : vp_in (Int32.ofInt z) n := by
  unfold vp_in
  rw [i32_nat h hz]
  rintro (q | q)
  · rw [Int32.lt_iff_toInt_lt, i32_in ⟨by omega, hz⟩] at q
    simp at q
    omega
  · omega
theorem i32_i2l {x : Int} (hx : -2147483648 ≤ x ∧ x < 2147483648) : (Int32.ofInt x).toInt64 = Int64.ofInt x := by
  apply i64_ext
  rw [Int32.toInt_toInt64, i32_in hx, i64_in (by omega)]
theorem i64_l2i {x : Int} (hx : -9223372036854775808 ≤ x ∧ x < 9223372036854775808) : (Int64.ofInt x).toInt32 = Int32.ofInt (w32 x) := by
  apply i32_ext
  rw [Int64.toInt_toInt32, i64_in hx, i32_w, i32_ofInt]
  exact bmod32 x
theorem i32_i2b {x : Int} (hx : -2147483648 ≤ x ∧ x < 2147483648) : (Int32.ofInt x).toInt8.toInt32 = Int32.ofInt (w8 x) := by
  apply i32_ext
  rw [Int8.toInt_toInt32, Int32.toInt_toInt8, i32_in hx, i32_in (by unfold w8; omega)]
  unfold w8
  rw [Int.bmod_def]
  simp only [Int.reducePow, Nat.reducePow]
  split <;> omega
theorem i32_i2s {x : Int} (hx : -2147483648 ≤ x ∧ x < 2147483648) : (Int32.ofInt x).toInt16.toInt32 = Int32.ofInt (w16 x) := by
  apply i32_ext
  rw [Int16.toInt_toInt32, Int32.toInt_toInt16, i32_in hx, i32_in (by unfold w16; omega)]
  unfold w16
  rw [Int.bmod_def]
  simp only [Int.reducePow, Nat.reducePow]
  split <;> omega
theorem i32_i2c {x : Int} (hx : -2147483648 ≤ x ∧ x < 2147483648) : ((Int32.ofInt x).toUInt32 % 65536).toInt32 = Int32.ofInt (x % 65536) := by
  have h1 : ((Int32.ofInt x).toUInt32 % 65536).toNat = (x % 65536).toNat := by
    have e : (Int32.ofInt x).toUInt32.toNat = (x % 4294967296).toNat := by
      have h2 : (Int32.ofInt x).toBitVec = BitVec.ofInt 32 x := rfl
      show (Int32.ofInt x).toBitVec.toNat = _
      rw [h2, BitVec.toNat_ofInt]
      rfl
    rw [UInt32.toNat_mod, e]
    show (x % 4294967296).toNat % 65536 = _
    omega
  apply i32_ext
  have h3 : (((Int32.ofInt x).toUInt32 % 65536).toInt32).toInt = (((Int32.ofInt x).toUInt32 % 65536).toNat : Int) := by
    have h4 : ((Int32.ofInt x).toUInt32 % 65536).toNat < 65536 := by rw [h1]; omega
    show (((Int32.ofInt x).toUInt32 % 65536).toBitVec).toInt = _
    rw [BitVec.toInt_eq_toNat_of_lt]
    · rfl
    · show 2 * ((Int32.ofInt x).toUInt32 % 65536).toNat < _
      omega
  rw [h3, h1, i32_in (by omega)]
  omega


