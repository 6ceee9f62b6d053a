/-! THE PURE MACHINE: values are (tag, number): 0 int, 1 long, 2 reference (the number of a cell; from 1000 on: arrays of the statics, the script, texts' bytes; from 2000 on: texts); the heap is a list of shapes and a function of numbers. -/
abbrev pm_V : Type := Nat × Int
abbrev pm_S : Type := List (Nat × Nat × Nat) × (Nat → Nat → Int)
abbrev pm_A : Type := Nat × Nat × Int × Nat
abbrev pm_C : Type := List (List (Option (Instr × pm_A)))
abbrev pm_X : Type := Nat → Option (Nat × Nat × (Nat → Int))
abbrev pm_R : Type := Option pm_V × pm_S
abbrev pm_F : Type := Nat × List pm_V × List pm_V × pm_S
abbrev pm_O : Type := Nat → List pm_V → pm_S → Option pm_R
def pm_get {α : Type} : List α → Nat → Option α
  | [], _ => none
  | a :: _, 0 => some a
  | _ :: l, n + 1 => pm_get l n
def pm_set {α : Type} : List α → Nat → α → List α
  | [], _, _ => []
  | _ :: l, 0, v => v :: l
  | a :: l, n + 1, v => a :: pm_set l n v
def w32 (z : Int) : Int := (z + 2147483648) % 4294967296 - 2147483648
def w64 (z : Int) : Int := (z + 9223372036854775808) % 18446744073709551616 - 9223372036854775808
def w16 (z : Int) : Int := (z + 32768) % 65536 - 32768
def w8 (z : Int) : Int := (z + 128) % 256 - 128
def pm_and (x y : Int) : Int := (Int32.ofInt x &&& Int32.ofInt y).toInt
def pm_or (x y : Int) : Int := (Int32.ofInt x ||| Int32.ofInt y).toInt
def pm_xor (x y : Int) : Int := (Int32.ofInt x ^^^ Int32.ofInt y).toInt
def pm_shl (x y : Int) : Int := (Int32.ofInt x <<< (Int32.ofInt y &&& 31)).toInt
def pm_shr (x y : Int) : Int := (Int32.ofInt x >>> (Int32.ofInt y &&& 31)).toInt
def pm_ush (x y : Int) : Int := (((Int32.ofInt x).toUInt32 >>> ((Int32.ofInt y).toUInt32 &&& Int32.toUInt32 31)).toInt32).toInt
def pm_lnd (x y : Int) : Int := (Int64.ofInt x &&& Int64.ofInt y).toInt
def pm_lor (x y : Int) : Int := (Int64.ofInt x ||| Int64.ofInt y).toInt
def pm_lsh (x y : Int) : Int := (Int64.ofInt x <<< ((Int32.ofInt y).toInt64 &&& 63)).toInt
def pm_up (μ : Nat → Nat → Int) (c k : Nat) (v : Int) : Nat → Nat → Int := fun a i => if a = c ∧ i = k then v else μ a i
def pm_new (μ : Nat → Nat → Int) (c : Nat) (d : Nat → Int) : Nat → Nat → Int := fun a i => if a = c then d i else μ a i
def pm_cpy (μ : Nat → Nat → Int) (s d sp dp n : Nat) : Nat → Nat → Int := fun a i => if a = d ∧ dp ≤ i ∧ i < dp + n then μ s (sp + (i - dp)) else μ a i
def pm_nx (pc : Nat) (ls st : List pm_V) (σ : pm_S) : Option (pm_F ⊕ pm_R) := some (.inl (pc, ls, st, σ))
def pm_lng (ls : List pm_V) : Nat → Bool
  | 0 => false
  | j + 1 => match pm_get ls j with
    | some (1, _) => true
    | _ => false
def pm_put (ls : List pm_V) (i : Nat) (v : pm_V) : Option (List pm_V) := match pm_get ls i with
  | none => none
  | some _ => match pm_lng ls i with
    | true => none
    | false => some (pm_set ls i v)
def pm_ldi (pc i : Nat) (ls st : List pm_V) (σ : pm_S) : Option (pm_F ⊕ pm_R) := match pm_get ls i with
  | some (0, x) => pm_nx pc ls ((0, x) :: st) σ
  | _ => none
def pm_ldl (pc i : Nat) (ls st : List pm_V) (σ : pm_S) : Option (pm_F ⊕ pm_R) := match pm_get ls i with
  | some (1, x) => pm_nx pc ls ((1, x) :: st) σ
  | _ => none
def pm_lda (pc i : Nat) (ls st : List pm_V) (σ : pm_S) : Option (pm_F ⊕ pm_R) := match pm_get ls i with
  | some (2, .ofNat x) => pm_nx pc ls ((2, .ofNat x) :: st) σ
  | _ => none
def pm_sti (pc i : Nat) (ls st : List pm_V) (σ : pm_S) : Option (pm_F ⊕ pm_R) := match st with
  | (0, x) :: r => (match pm_put ls i (0, x) with
    | some ls' => pm_nx pc ls' r σ
    | none => none)
  | _ => none
def pm_sta (pc i : Nat) (ls st : List pm_V) (σ : pm_S) : Option (pm_F ⊕ pm_R) := match st with
  | (2, .ofNat x) :: r => (match pm_put ls i (2, .ofNat x) with
    | some ls' => pm_nx pc ls' r σ
    | none => none)
  | _ => none
def pm_stl (pc i : Nat) (ls st : List pm_V) (σ : pm_S) : Option (pm_F ⊕ pm_R) := match st with
  | (1, x) :: r => (match pm_put ls i (1, x) with
    | some ls' => (match pm_get ls' (i + 1) with
      | some _ => pm_nx pc (pm_set ls' (i + 1) (9, 0)) r σ
      | none => none)
    | none => none)
  | _ => none
def pm_inc (pc i : Nat) (n : Int) (ls st : List pm_V) (σ : pm_S) : Option (pm_F ⊕ pm_R) := match pm_get ls i with
  | some (0, x) => (match pm_put ls i (0, w32 (x + n)) with
    | some ls' => pm_nx pc ls' st σ
    | none => none)
  | _ => none
def pm_i2 (f : Int → Int → Int) (pc : Nat) (ls st : List pm_V) (σ : pm_S) : Option (pm_F ⊕ pm_R) := match st with
  | (0, y) :: (0, x) :: r => pm_nx (pc + 1) ls ((0, f x y) :: r) σ
  | _ => none
def pm_d2 (f : Int → Int → Int) (pc : Nat) (ls st : List pm_V) (σ : pm_S) : Option (pm_F ⊕ pm_R) := match st with
  | (0, y) :: (0, x) :: r => if y = 0 then none else pm_nx (pc + 1) ls ((0, f x y) :: r) σ
  | _ => none
def pm_l2 (f : Int → Int → Int) (pc : Nat) (ls st : List pm_V) (σ : pm_S) : Option (pm_F ⊕ pm_R) := match st with
  | (1, y) :: (1, x) :: r => pm_nx (pc + 1) ls ((1, f x y) :: r) σ
  | _ => none
def pm_u (s t : Nat) (f : Int → Int) (pc : Nat) (ls st : List pm_V) (σ : pm_S) : Option (pm_F ⊕ pm_R) := match st with
  | (t0, x) :: r => if t0 = s then pm_nx (pc + 1) ls ((t, f x) :: r) σ else none
  | _ => none
def pm_br (c : Jvm.ClassFile.Cond) (x y : Int) (t f : Nat) : Nat := match c with
  | .eq => if x = y then t else f
  | .ne => if x = y then f else t
  | .lt => if x < y then t else f
  | .ge => if x < y then f else t
  | .gt => if y < x then t else f
  | .le => if y < x then f else t
def pm_tg (pc : Nat) (off : Int) : Nat := ((pc : Int) + off).toNat
def pm_tsw (dflt lo hi : Int) (offs : Array Int) (x : Int) : Option Int := if x < lo ∨ hi < x then some dflt else pm_get offs.toList (x - lo).toNat
def pm_field (a b fc : Nat) (σ : pm_S) (i : Nat) : Option Int := match pm_get σ.1 i with
  | some (0, ci, n) => if ci = a ∧ b < n then some (σ.2 i b) else none
  | _ => none
def pm_tag (fc : Nat) : Nat := if fc = 3 then 0 else fc
def pm_getf (a b fc : Nat) (pc : Nat) (ls st : List pm_V) (σ : pm_S) : Option (pm_F ⊕ pm_R) := match st with
  | (2, .ofNat i) :: r => (match pm_field a b fc σ i with
    | some z => pm_nx (pc + 3) ls ((pm_tag fc, z) :: r) σ
    | none => none)
  | _ => none
def pm_getS (b : Nat) (pc : Nat) (ls st : List pm_V) (σ : pm_S) : Option (pm_F ⊕ pm_R) := match st with
  | (2, .ofNat i) :: r => if 2000 ≤ i ∧ i < 2010 then (match b with
    | 0 => pm_nx (pc + 3) ls ((2, .ofNat (i - 2000 + 1010)) :: r) σ
    | _ => pm_nx (pc + 3) ls ((0, 0) :: r) σ) else none
  | _ => none
def pm_putf (a b fc : Nat) (pc : Nat) (ls st : List pm_V) (σ : pm_S) : Option (pm_F ⊕ pm_R) := match st with
  | (t, v) :: (2, .ofNat i) :: r => (match pm_field a b fc σ i with
    | some _ => if t = pm_tag fc ∧ (fc = 3 → v = 0 ∨ v = 1) then pm_nx (pc + 3) ls r (σ.1, pm_up σ.2 i b v) else none
    | none => none)
  | _ => none
/-- the array that a reference is: kind of its elements, length, contents -/
def pm_arr (X : pm_X) (σ : pm_S) (i : Nat) : Option (Nat × Nat × (Nat → Int)) := if 1000 ≤ i then X (i - 1000) else match pm_get σ.1 i with
  | some (1, e, n) => some (e, n, σ.2 i)
  | _ => none
def pm_aload (X : pm_X) (e t : Nat) (pc : Nat) (ls st : List pm_V) (σ : pm_S) : Option (pm_F ⊕ pm_R) := match st with
  | (0, k) :: (2, .ofNat i) :: r => (match pm_arr X σ i with
    | some (e0, n, f) => if e0 = e then (if 0 ≤ k ∧ k < (n : Int) then pm_nx (pc + 1) ls ((t, f k.toNat) :: r) σ else none) else none
    | none => none)
  | _ => none
def pm_bk (i : Nat) : Nat := if 1000 ≤ i then 3 else 2
def pm_baload (X : pm_X) (pc : Nat) (ls st : List pm_V) (σ : pm_S) : Option (pm_F ⊕ pm_R) := match st with
  | (0, k) :: (2, .ofNat i) :: r => (match pm_arr X σ i with
    | some (e0, n, f) => if e0 = pm_bk i then (if 0 ≤ k ∧ k < (n : Int) then pm_nx (pc + 1) ls ((0, f k.toNat) :: r) σ else none) else none
    | none => none)
  | _ => none
def pm_aald (pc : Nat) (ls st : List pm_V) (σ : pm_S) : Option (pm_F ⊕ pm_R) := match st with
  | (0, k) :: (2, .ofNat i) :: r => (match pm_get σ.1 i with
    | some (1, e, n) => if e = 4 ∨ e = 5 then (if 0 ≤ k ∧ k < (n : Int) then pm_nx (pc + 1) ls ((2, σ.2 i k.toNat) :: r) σ else none) else none
    | _ => none)
  | _ => none
def pm_astore (e t : Nat) (pc : Nat) (ls st : List pm_V) (σ : pm_S) : Option (pm_F ⊕ pm_R) := match st with
  | (t0, v) :: (0, k) :: (2, .ofNat i) :: r => (match pm_get σ.1 i with
    | some (1, e0, n) => if e0 = e ∧ t0 = t ∧ (e = 2 → v = 0 ∨ v = 1) then (if 0 ≤ k ∧ k < (n : Int) then pm_nx (pc + 1) ls r (σ.1, pm_up σ.2 i k.toNat v) else none) else none
    | _ => none)
  | _ => none
def pm_alen (X : pm_X) (pc : Nat) (ls st : List pm_V) (σ : pm_S) : Option (pm_F ⊕ pm_R) := match st with
  | (2, .ofNat i) :: r => (match pm_arr X σ i with
    | some (_, n, _) => pm_nx (pc + 1) ls ((0, (n : Int)) :: r) σ
    | none => none)
  | _ => none
def pm_newa (e : Nat) (pc : Nat) (ls st : List pm_V) (σ : pm_S) : Option (pm_F ⊕ pm_R) := match st with
  | (0, n) :: r => if 0 ≤ n ∧ n ≤ 60000 ∧ σ.1.length < 900 then pm_nx (pc + 2) ls ((2, .ofNat σ.1.length) :: r) (σ.1 ++ [(1, e, n.toNat)], pm_new σ.2 σ.1.length (fun _ => 0)) else none
  | _ => none
def pm_newo (a b : Nat) (d : Nat → Int) (pc : Nat) (ls st : List pm_V) (σ : pm_S) : Option (pm_F ⊕ pm_R) :=
  if σ.1.length < 900 then pm_nx (pc + 3) ls ((2, .ofNat σ.1.length) :: st) (σ.1 ++ [(0, a, b)], pm_new σ.2 σ.1.length d) else none
def pm_mnew (μ : Nat → Nat → Int) (c n : Nat) : Nat → Nat → Int := fun a i => if a = c then ((c + 1 + i : Nat) : Int) else if c < a ∧ a < c + 1 + n then 0 else μ a i
def pm_mna (e : Nat) (pc : Nat) (ls st : List pm_V) (σ : pm_S) : Option (pm_F ⊕ pm_R) := match st with
  | (0, k) :: (0, n) :: r => if 0 ≤ n ∧ n ≤ 100 ∧ 0 ≤ k ∧ k ≤ 60000 ∧ σ.1.length < 800 then
      pm_nx (pc + 4) ls ((2, .ofNat σ.1.length) :: r) (σ.1 ++ (1, e, n.toNat) :: List.replicate n.toNat (1, e - 4, k.toNat), pm_mnew σ.2 σ.1.length n.toNat) else none
  | _ => none
def pm_pop : Nat → List pm_V → List pm_V → Option (List pm_V × List pm_V)
  | 0, acc, st => some (acc, st)
  | n + 1, acc, v :: st => pm_pop n (v :: acc) st
  | _ + 1, _, [] => none
def pm_fit : Nat → List pm_V → Bool
  | _, [] => true
  | 0, _ :: _ => false
  | n + 1, _ :: l => pm_fit n l
def pm_psh (rv : Option pm_V) (st : List pm_V) : List pm_V := match rv with
  | some v => v :: st
  | none => st
def pm_recv (z : Nat) (args : List pm_V) (σ : pm_S) : Bool := match args with
  | (2, .ofNat i) :: _ => if z = 100 then decide (2000 ≤ i ∧ i < 2010) else (match pm_get σ.1 i with
    | some (0, ci, _) => decide (ci = z)
    | _ => false)
  | _ => false
def pm_ref0 (args : List pm_V) : Bool := match args with
  | (2, .ofNat _) :: _ => true
  | _ => false
def pm_call (orc : pm_O) (y : Nat) (args rest : List pm_V) (pc : Nat) (ls : List pm_V) (σ : pm_S) : Option (pm_F ⊕ pm_R) := match pm_fit 4 rest with
  | true => (match orc y args σ with
    | some (rv, σ') => pm_nx (pc + 3) ls (pm_psh rv rest) σ'
    | none => none)
  | false => none
def pm_callS (orc : pm_O) (y n : Nat) (pc : Nat) (ls st : List pm_V) (σ : pm_S) : Option (pm_F ⊕ pm_R) := match pm_pop n [] st with
  | some (args, rest) => pm_call orc y args rest pc ls σ
  | none => none
def pm_callV (orc : pm_O) (y n z : Nat) (pc : Nat) (ls st : List pm_V) (σ : pm_S) : Option (pm_F ⊕ pm_R) := match pm_pop (n + 1) [] st with
  | some (args, rest) => (match pm_recv z args σ with
    | true => pm_call orc y args rest pc ls σ
    | false => none)
  | none => none
def pm_callI (orc : pm_O) (y n : Nat) (pc : Nat) (ls st : List pm_V) (σ : pm_S) : Option (pm_F ⊕ pm_R) := match pm_pop (n + 1) [] st with
  | some (args, rest) => (match pm_ref0 args with
    | true => pm_call orc y args rest pc ls σ
    | false => none)
  | none => none
def pm_obj (pc : Nat) (ls st : List pm_V) (σ : pm_S) : Option (pm_F ⊕ pm_R) := match st with
  | (2, .ofNat _) :: r => (match pm_fit 4 r with
    | true => pm_nx (pc + 3) ls r σ
    | false => none)
  | _ => none
def pm_copy (pc : Nat) (ls st : List pm_V) (σ : pm_S) : Option (pm_F ⊕ pm_R) := match st with
  | (0, n) :: (0, dp) :: (2, .ofNat d) :: (0, sp) :: (2, .ofNat s) :: r => (match pm_get σ.1 s, pm_get σ.1 d, pm_fit 4 r with
    | some (1, e, ns), some (1, e', nd), true => if (e = 0 ∨ e = 1) ∧ e' = e then (if 0 ≤ sp ∧ 0 ≤ dp ∧ 0 ≤ n ∧ sp + n ≤ (ns : Int) ∧ dp + n ≤ (nd : Int) then pm_nx (pc + 3) ls r (σ.1, pm_cpy σ.2 s d sp.toNat dp.toNat n.toNat) else none) else none
    | _, _, _ => none)
  | _ => none
def pm_m2 (f : Int → Int → Int) (pc : Nat) (ls st : List pm_V) (σ : pm_S) : Option (pm_F ⊕ pm_R) := match st with
  | (0, y) :: (0, x) :: r => (match pm_fit 4 r with
    | true => pm_nx (pc + 3) ls ((0, f x y) :: r) σ
    | false => none)
  | _ => none
def pm_m1 (f : Int → Int) (pc : Nat) (ls st : List pm_V) (σ : pm_S) : Option (pm_F ⊕ pm_R) := match st with
  | (0, x) :: r => (match pm_fit 4 r with
    | true => pm_nx (pc + 3) ls ((0, f x) :: r) σ
    | false => none)
  | _ => none
def pm_max (x y : Int) : Int := if x < y then y else x
def pm_min (x y : Int) : Int := if y < x then y else x
def pm_abs (x : Int) : Int := if 0 ≤ x then x else w32 (0 - x)
def pm_ret (t a : Nat) (st : List pm_V) (σ : pm_S) : Option (pm_F ⊕ pm_R) := match st with
  | [(t0, x)] => if t0 = t ∧ (a = 1 → x = 0 ∨ x = 1) ∧ (a = 2 → -128 ≤ x ∧ x ≤ 127) ∧ (t = 2 → 0 ≤ x) then some (.inr (some (t, x), σ)) else none
  | _ => none
/-- class and field: what kind of number it holds (0 int, 1 long, 2 reference, 3 boolean); made by the tables -/
abbrev pm_K : Type := Nat → Nat → Nat
def pm_exec (orc : pm_O) (X : pm_X) (fc : pm_K) (ins : Instr) (x : pm_A) (pc : Nat) (ls st : List pm_V) (σ : pm_S) : Option (pm_F ⊕ pm_R) := match ins with
  | .iconst n => pm_nx (pc + 1) ls ((0, n) :: st) σ
  | .bipush n => pm_nx (pc + 2) ls ((0, n) :: st) σ
  | .sipush n => pm_nx (pc + 3) ls ((0, n) :: st) σ
  | .lconst n => pm_nx (pc + 1) ls ((1, ((n : Nat) : Int)) :: st) σ
  | .ldc _ => pm_nx (pc + 2) ls ((x.1, x.2.2.1) :: st) σ
  | .ldc_w _ => pm_nx (pc + 3) ls ((0, x.2.2.1) :: st) σ
  | .ldc2_w _ => pm_nx (pc + 3) ls ((1, x.2.2.1) :: st) σ
  | .getstatic _ => pm_nx (pc + 3) ls ((x.1, x.2.2.1) :: st) σ
  | .iload_n k => pm_ldi (pc + 1) k ls st σ
  | .iload i => pm_ldi (pc + 2) i ls st σ
  | .lload_n k => pm_ldl (pc + 1) k ls st σ
  | .lload i => pm_ldl (pc + 2) i ls st σ
  | .aload_n k => pm_lda (pc + 1) k ls st σ
  | .aload i => pm_lda (pc + 2) i ls st σ
  | .istore_n k => pm_sti (pc + 1) k ls st σ
  | .istore i => pm_sti (pc + 2) i ls st σ
  | .lstore_n k => pm_stl (pc + 1) k ls st σ
  | .lstore i => pm_stl (pc + 2) i ls st σ
  | .astore_n k => pm_sta (pc + 1) k ls st σ
  | .astore i => pm_sta (pc + 2) i ls st σ
  | .iinc i n => pm_inc (pc + 3) i n ls st σ
  | .dup => (match st with
    | (t, v) :: r => if t = 0 ∨ t = 2 then pm_nx (pc + 1) ls ((t, v) :: (t, v) :: r) σ else none
    | _ => none)
  | .dup2 => (match st with
    | (t, v) :: (t', w) :: r => if (t = 0 ∨ t = 2) ∧ (t' = 0 ∨ t' = 2) then pm_nx (pc + 1) ls ((t, v) :: (t', w) :: (t, v) :: (t', w) :: r) σ else none
    | _ => none)
  | .pop => (match st with
    | (t, _) :: r => if t = 0 ∨ t = 2 then pm_nx (pc + 1) ls r σ else none
    | _ => none)
  | .pop2 => (match st with
    | (1, _) :: r => pm_nx (pc + 1) ls r σ
    | _ => none)
  | .iadd => pm_i2 (fun x y => w32 (x + y)) pc ls st σ
  | .isub => pm_i2 (fun x y => w32 (x - y)) pc ls st σ
  | .imul => pm_i2 (fun x y => w32 (x * y)) pc ls st σ
  | .iand => pm_i2 pm_and pc ls st σ
  | .ior => pm_i2 pm_or pc ls st σ
  | .ixor => pm_i2 pm_xor pc ls st σ
  | .ishl => pm_i2 pm_shl pc ls st σ
  | .iushr => pm_i2 pm_ush pc ls st σ
  | .ishr => pm_i2 pm_shr pc ls st σ
  | .idiv => pm_d2 (fun x y => w32 (x.tdiv y)) pc ls st σ
  | .irem => pm_d2 (fun x y => x.tmod y) pc ls st σ
  | .ineg => pm_u 0 0 (fun x => w32 (-x)) pc ls st σ
  | .i2l => pm_u 0 1 (fun x => x) pc ls st σ
  | .l2i => pm_u 1 0 w32 pc ls st σ
  | .i2b => pm_u 0 0 w8 pc ls st σ
  | .i2s => pm_u 0 0 w16 pc ls st σ
  | .i2c => pm_u 0 0 (fun x => x % 65536) pc ls st σ
  | .ladd => pm_l2 (fun x y => w64 (x + y)) pc ls st σ
  | .lsub => pm_l2 (fun x y => w64 (x - y)) pc ls st σ
  | .lmul => pm_l2 (fun x y => w64 (x * y)) pc ls st σ
  | .land => pm_l2 pm_lnd pc ls st σ
  | .lor => pm_l2 pm_lor pc ls st σ
  | .lshl => (match st with
    | (0, y) :: (1, x) :: r => pm_nx (pc + 1) ls ((1, pm_lsh x y) :: r) σ
    | _ => none)
  | .lcmp => (match st with
    | (1, y) :: (1, x) :: r => pm_nx (pc + 1) ls ((0, if y < x then 1 else if x = y then 0 else -1) :: r) σ
    | _ => none)
  | .ifCond c off => (match st with
    | (0, x) :: r => pm_nx (pm_br c x 0 (pm_tg pc off) (pc + 3)) ls r σ
    | _ => none)
  | .if_icmp c off => (match st with
    | (0, y) :: (0, x) :: r => pm_nx (pm_br c x y (pm_tg pc off) (pc + 3)) ls r σ
    | _ => none)
  | .goto off => pm_nx (pm_tg pc off) ls st σ
  | .tableswitch dflt lo hi offs => (match st with
    | (0, x) :: r => (match pm_tsw dflt lo hi offs x with
      | some o => pm_nx (pm_tg pc o) ls r σ
      | none => none)
    | _ => none)
  | .lookupswitch dflt ps => (match st with
    | (0, x) :: r => pm_nx (pm_tg pc (Op.lookupswitch.offset ps.toList dflt x)) ls r σ
    | _ => none)
  | .getfield _ => (match x.1 with
    | 100 => pm_getS x.2.1 pc ls st σ
    | _ => pm_getf x.1 x.2.1 (fc x.1 x.2.1) pc ls st σ)
  | .putfield _ => pm_putf x.1 x.2.1 (fc x.1 x.2.1) pc ls st σ
  | .iaload => pm_aload X 0 0 pc ls st σ
  | .laload => pm_aload X 1 1 pc ls st σ
  | .baload => pm_baload X pc ls st σ
  | .aaload => pm_aald pc ls st σ
  | .iastore => pm_astore 0 0 pc ls st σ
  | .lastore => pm_astore 1 1 pc ls st σ
  | .bastore => pm_astore 2 0 pc ls st σ
  | .arraylength => pm_alen X pc ls st σ
  | .newarray ty => (match ty with
    | .int => pm_newa 0 pc ls st σ
    | .long => pm_newa 1 pc ls st σ
    | .boolean => pm_newa 2 pc ls st σ
    | _ => none)
  | .new _ => pm_newo x.1 x.2.1 (fun k => if fc x.1 k = 2 then -1 else 0) pc ls st σ
  | .multianewarray _ dims => if dims = 2 then pm_mna x.1 pc ls st σ else none
  | .invokestatic _ => (match x.2.2.1 with
    | 1 => pm_copy pc ls st σ
    | 2 => pm_m2 pm_max pc ls st σ
    | 3 => pm_m2 pm_min pc ls st σ
    | 4 => pm_m1 pm_abs pc ls st σ
    | _ => pm_callS orc x.1 x.2.1 pc ls st σ)
  | .invokevirtual _ => pm_callV orc x.1 x.2.1 x.2.2.1.toNat pc ls st σ
  | .invokespecial _ => (match x.2.2.1 with
    | 1 => pm_obj pc ls st σ
    | _ => pm_callI orc x.1 x.2.1 pc ls st σ)
  | .ireturn => pm_ret 0 x.1 st σ
  | .lreturn => pm_ret 1 0 st σ
  | .areturn => pm_ret 2 0 st σ
  | .return_ => (match st with
    | [] => some (.inr (none, σ))
    | _ => none)
  | _ => none
def pm_fetch (C : pm_C) (pc : Nat) : Option (Instr × pm_A) := match pm_get C (pc / 16) with
  | some l => (match pm_get l (pc % 16) with
    | some q => q
    | none => none)
  | none => none
def pm_step (orc : pm_O) (X : pm_X) (fc : pm_K) (C : pm_C) (g : pm_F) : Option (pm_F ⊕ pm_R) := match pm_fetch C g.1 with
  | some (ins, x) => pm_exec orc X fc ins x g.1 g.2.1 g.2.2.1 g.2.2.2
  | none => none
def pm_run (orc : pm_O) (X : pm_X) (fc : pm_K) (C : pm_C) : Nat → pm_F → Option pm_R
  | 0, _ => none
  | n + 1, g => match pm_step orc X fc C g with
    | some (.inl g') => pm_run orc X fc C n g'
    | some (.inr r) => some r
    | none => none
theorem pm_run_succ {orc : pm_O} {X : pm_X} {fc : pm_K} {C : pm_C} {r : pm_R} : ∀ {n : Nat} {g : pm_F}, pm_run orc X fc C n g = some r → pm_run orc X fc C (n + 1) g = some r
  | 0, g, h => by cases h
  | n + 1, g, h => by
    rw [pm_run] at h ⊢
    cases hs : pm_step orc X fc C g with
    | none => rw [hs] at h; cases h
    | some q =>
      rw [hs] at h
      cases q with
      | inl g' => exact pm_run_succ (n := n) h
      | inr r' => exact h
theorem pm_run_mono {orc : pm_O} {X : pm_X} {fc : pm_K} {C : pm_C} {r : pm_R} {n m : Nat} {g : pm_F} (h : pm_run orc X fc C n g = some r) (hm : n ≤ m) : pm_run orc X fc C m g = some r := by
  induction hm with
  | refl => exact h
  | step _ ih => exact pm_run_succ ih
theorem pm_run_det {orc : pm_O} {X : pm_X} {fc : pm_K} {C : pm_C} {r r' : pm_R} {n m : Nat} {g : pm_F} (h : pm_run orc X fc C n g = some r) (h' : pm_run orc X fc C m g = some r') : r = r' := by
  have h1 := pm_run_mono h (Nat.le_max_left n m)
  have h2 := pm_run_mono h' (Nat.le_max_right n m)
  rw [h1] at h2
  exact Option.some.inj h2
/-- where a configuration comes to, if it does -/
noncomputable def pm_go (orc : pm_O) (X : pm_X) (fc : pm_K) (C : pm_C) (g : pm_F) : Option pm_R :=
  @dite _ (∃ r, ∃ n, pm_run orc X fc C n g = some r) (Classical.propDecidable _) (fun h => some (Classical.choose h)) (fun _ => none)
theorem pm_go_iff {orc : pm_O} {X : pm_X} {fc : pm_K} {C : pm_C} {g : pm_F} {r : pm_R} : pm_go orc X fc C g = some r ↔ ∃ n, pm_run orc X fc C n g = some r := by
  unfold pm_go
  by_cases h : ∃ r, ∃ n, pm_run orc X fc C n g = some r
  · rw [dif_pos h]
    obtain ⟨n, hn⟩ := Classical.choose_spec h
    constructor
    · intro e
      cases e
      exact ⟨n, hn⟩
    · rintro ⟨n', hn'⟩
      rw [pm_run_det hn hn']
  · rw [dif_neg h]
    constructor
    · intro e; cases e
    · intro h'; exact absurd ⟨r, h'⟩ h
theorem pm_go_step (orc : pm_O) (X : pm_X) (fc : pm_K) (C : pm_C) (g : pm_F) : pm_go orc X fc C g = (match pm_step orc X fc C g with
    | some (.inl g') => pm_go orc X fc C g'
    | some (.inr r) => some r
    | none => none) := by
  apply Option.ext
  intro r
  rw [pm_go_iff]
  cases hs : pm_step orc X fc C g with
  | none =>
    constructor
    · rintro ⟨n, h⟩
      cases n with
      | zero => cases h
      | succ n => rw [pm_run, hs] at h; cases h
    · intro h; cases h
  | some q =>
    cases q with
    | inl g' =>
      show _ ↔ pm_go orc X fc C g' = some r
      rw [pm_go_iff]
      constructor
      · rintro ⟨n, h⟩
        cases n with
        | zero => cases h
        | succ n => rw [pm_run, hs] at h; exact ⟨n, h⟩
      · rintro ⟨n, h⟩
        exact ⟨n + 1, by rw [pm_run, hs]; exact h⟩
    | inr r' =>
      constructor
      · rintro ⟨n, h⟩
        cases n with
        | zero => cases h
        | succ n => rw [pm_run, hs] at h; exact h
      · intro h
        exact ⟨1, by rw [pm_run, hs]; exact h⟩
abbrev pm_M : Type := MethodName × ByteArray × Nat × Option FieldType × pm_C
def pm_spr : List pm_V → List pm_V
  | [] => []
  | (1, z) :: l => (1, z) :: (9, 0) :: pm_spr l
  | v :: l => v :: pm_spr l
def pm_pad : Nat → List pm_V → List pm_V
  | 0, _ => []
  | n + 1, [] => (9, 0) :: pm_pad n []
  | n + 1, v :: l => v :: pm_pad n l
noncomputable def pm_E (T : List pm_M) (X : pm_X) (fc : pm_K) : Nat → pm_O
  | 0 => fun _ _ _ => none
  | d + 1 => fun y args σ => match pm_get T y with
    | some M => (match Nat.ble (pm_spr args).length M.2.2.1 with
      | true => pm_go (pm_E T X fc d) X fc M.2.2.2.2 (0, pm_pad M.2.2.1 (pm_spr args), [], σ)
      | false => none)
    | none => none


