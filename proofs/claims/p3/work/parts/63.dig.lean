/-! DIG: both answer, and alike -/
section DI
variable {L : Nat} {xs : Nat → Int} {d : Nat} {v : Nat → Nat → Int} {c : Nat → Nat → Nat → Int} {P : Nat}
theorem mn_le (x y : Int) : pm_min x y ≤ x ∧ pm_min x y ≤ y ∧ (pm_min x y = x ∨ pm_min x y = y) := by
  unfold pm_min
  split <;> omega
theorem mx_le (x y : Int) : x ≤ pm_max x y ∧ y ≤ pm_max x y ∧ (pm_max x y = x ∨ pm_max x y = y) := by
  unfold pm_max
  split <;> omega
/-- a hole more, between p and q: the old ways tell it -/
def whB (f : Nat → Nat → Int) (p q s t : Nat) : Int := pm_min (f s t) (pm_min (f s p + 1 + f q t) (f s q + 1 + f p t))
theorem whB_Lst {E E' : Nat → Nat → Int → Prop} {f : Nat → Nat → Int} {p q s t : Nat} (hP : P ≤ 60) (hE : Okg E P 99) (hp : p < P) (hq : q < P) (hs : s < P) (ht : t < P) (hf : ∀ s t, s < P → t < P → Lst E s t 9999 (f s t)) (hE' : ∀ a b k, E' a b k ↔ E a b k ∨ (((a = p ∧ b = q) ∨ (a = q ∧ b = p)) ∧ k = 1)) : Lst E' s t 9999 (whB f p q s t) := by
  have hO : Okg E' P 99 := fun a b k he => by
    rcases (hE' a b k).mp he with h | ⟨⟨h1, h2⟩ | ⟨h1, h2⟩, h3⟩
    · exact hE a b k h
    · omega
    · omega
  have hin : ∀ s t, s < P → t < P → 0 ≤ f s t ∧ f s t ≤ 9999 := fun s t hs ht => by
    rcases hf s t hs ht with ⟨h1, h2, -⟩ | ⟨h1, -⟩
    · omega
    · omega
  have h0 : ∀ s, s < P → f s s = 0 := fun s hs => by
    rcases hf s s hs hs with ⟨h1, h2, -, h4⟩ | ⟨-, h2⟩
    · have := h4 0 0 (Wk_0 s)
      omega
    · exact absurd (Wk_0 s) (h2 0 0)
  have tri : ∀ s a b k, s < P → E a b k → f s a < 9999 → f s b ≤ f s a + k := fun s a b k hs he ha => by
    have ho := hE a b k he
    rcases hf s a hs ho.1 with ⟨-, -, ⟨n, h3⟩, -⟩ | ⟨h1, -⟩
    · rcases hf s b hs ho.2.1 with ⟨-, -, -, h4⟩ | ⟨-, h2⟩
      · exact h4 _ _ (Wk_snoc h3 he)
      · exact absurd (Wk_snoc h3 he) (h2 _ _)
    · omega
  have wk : ∀ s t, s < P → t < P → f s t < 9999 → ∃ n, Wk E' n s t (f s t) := fun s t hs ht h => by
    rcases hf s t hs ht with ⟨-, -, ⟨n, h3⟩, -⟩ | ⟨h1, -⟩
    · exact ⟨n, Wk_mono (fun a b k he => (hE' a b k).mpr (Or.inl he)) h3⟩
    · omega
  have epq : E' p q 1 := (hE' p q 1).mpr (Or.inr ⟨Or.inl ⟨rfl, rfl⟩, rfl⟩)
  have eqp : E' q p 1 := (hE' q p 1).mpr (Or.inr ⟨Or.inr ⟨rfl, rfl⟩, rfl⟩)
  have cases : ∀ t, whB f p q s t ≤ f s t ∧ whB f p q s t ≤ f s p + 1 + f q t ∧ whB f p q s t ≤ f s q + 1 + f p t ∧ (whB f p q s t = f s t ∨ whB f p q s t = f s p + 1 + f q t ∨ whB f p q s t = f s q + 1 + f p t) := fun t => by
    unfold whB
    have a := mn_le (f s t) (pm_min (f s p + 1 + f q t) (f s q + 1 + f p t))
    have b := mn_le (f s p + 1 + f q t) (f s q + 1 + f p t)
    omega
  refine IsD_Lst hO hP hs ht (by decide) (m := whB f p q s) ⟨?_, fun a b k he ha => ?_, fun t ht hm => ?_, fun t ht => ?_⟩
  · have a := cases s
    have a1 := h0 s hs
    have a2 := hin s p hs hp
    have a3 := hin q s hq hs
    have a4 := hin s q hs hq
    have a5 := hin p s hp hs
    omega
  · have ca := cases a
    have cb := cases b
    have s1 := hin s p hs hp
    have s2 := hin s q hs hq
    rcases (hE' a b k).mp he with h | ⟨⟨rfl, rfl⟩ | ⟨rfl, rfl⟩, rfl⟩
    · have ho := hE a b k h
      have t1 := tri s a b k hs h
      have t2 := tri p a b k hp h
      have t3 := tri q a b k hq h
      have s3 := hin s a hs ho.1
      have s4 := hin p a hp ho.1
      have s5 := hin q a hq ho.1
      rcases ca.2.2.2 with g | g | g
      · have := t1 (by omega)
        omega
      · have := t3 (by omega)
        omega
      · have := t2 (by omega)
        omega
    · have z1 := h0 a hp
      have z2 := h0 b hq
      have s3 := hin b a hq hp
      omega
    · have z1 := h0 a hq
      have z2 := h0 b hp
      have s3 := hin b a hp hq
      omega
  · have ct := cases t
    have s1 := hin s p hs hp
    have s2 := hin s q hs hq
    have s3 := hin p t hp ht
    have s4 := hin q t hq ht
    rcases ct.2.2.2 with g | g | g
    · rw [g] at hm ⊢
      exact wk s t hs ht hm
    · rw [g] at hm ⊢
      obtain ⟨n1, w1⟩ := wk s p hs hp (by omega)
      obtain ⟨n2, w2⟩ := wk q t hq ht (by omega)
      exact ⟨_, Wk_app (Wk_snoc w1 epq) w2⟩
    · rw [g] at hm ⊢
      obtain ⟨n1, w1⟩ := wk s q hs hq (by omega)
      obtain ⟨n2, w2⟩ := wk p t hp ht (by omega)
      exact ⟨_, Wk_app (Wk_snoc w1 eqp) w2⟩
  · have := (cases t).1
    have := hin s t hs ht
    omega
theorem mxF_le {m : Nat → Int} {w : Int} {z : Int} (hw : w ≤ z) (hm : ∀ p, p < P → m p ≤ z) : ∀ j, j ≤ P → w ≤ mxF m w j ∧ mxF m w j ≤ z
  | 0, _ => ⟨Int.le_refl w, hw⟩
  | j + 1, hj => by
    have ih := mxF_le hw hm j (by omega)
    have h := mx_le (mxF m w j) (m j)
    have := hm j (by omega)
    show w ≤ pm_max (mxF m w j) (m j) ∧ pm_max (mxF m w j) (m j) ≤ z
    omega
theorem mxA_le {A : Nat → Nat → Int} {z : Int} (hz : 0 ≤ z) (hA : ∀ s p, s < P → p < P → A s p ≤ z) : ∀ j, j ≤ P → 0 ≤ mxA A P j ∧ mxA A P j ≤ z
  | 0, _ => ⟨Int.le_refl 0, hz⟩
  | j + 1, hj => by
    have ih := mxA_le hz hA j (by omega)
    have h := mxF_le (w := mxA A P j) ih.2 (fun p hp => hA j p (by omega) hp) P (Nat.le_refl P)
    show 0 ≤ mxF (A j) (mxA A P j) P ∧ mxF (A j) (mxA A P j) P ≤ z
    omega
theorem mxA_mono {A : Nat → Nat → Int} {z : Int} (hz : 0 ≤ z) (hA : ∀ s p, s < P → p < P → A s p ≤ z) : ∀ n j, j + n = P → mxA A P j ≤ mxA A P P
  | 0, j, h => by rw [show j = P by omega]; exact Int.le_refl _
  | n + 1, j, h => by
    have ih := mxA_mono hz hA n (j + 1) (by omega)
    have l := mxA_le hz hA j (by omega)
    have h := mxF_le (w := mxA A P j) l.2 (fun p hp => hA j p (by omega) hp) P (Nat.le_refl P)
    have e : mxA A P (j + 1) = mxF (A j) (mxA A P j) P := rfl
    omega
theorem ix_a (s t : Nat) (hs : s < 100) (ht : t < 100) : w32 (w32 ((s : Int) * 60) + (t : Int)) = ((60 * s + t : Nat) : Int) := by
  rw [w32_id (z := (s : Int) * 60) (by omega) (by omega), w32_id (by omega) (by omega)]
  omega
theorem ix_b (y : Nat) (hy : y < 100) : w32 (((2 * y : Nat) : Int) + 1) = ((2 * y + 1 : Nat) : Int) := by
  rw [w32_id (by omega) (by omega)]
  omega
theorem ix_c (s y : Nat) (hs : s < 100) (hy : y < 100) : w32 (((60 * s + 2 * y : Nat) : Int) + 1) = ((60 * s + (2 * y + 1) : Nat) : Int) := by
  rw [w32_id (by omega) (by omega)]
  omega
theorem ix_r (s t : Nat) (hs : s < 60) (ht : t < 60) : 0 ≤ ((60 * s + t : Nat) : Int) ∧ ((60 * s + t : Nat) : Int) < 3600 := by omega
theorem c_withHole {S y s t : Nat} (h : WOK v S P) (hy : 2 * y + 1 < P) (hs : s < P) (ht : t < P) (hA : ∀ s t, s < P → t < P → 0 ≤ v 35 (60 * s + t) ∧ v 35 (60 * s + t) ≤ 9999) : qE L xs (d + 2) nX10_withHole [(2, 29), (0, (s : Int)), (0, (t : Int)), (0, ((2 * y : Nat) : Int))] (qS v) = some (some (0, whB (fun s t => v 35 (60 * s + t)) (2 * y) (2 * y + 1) s t), qS v) := by
  have hP := h.2.2.2.1
  have a1 := hA s (2 * y) hs (by omega)
  have a2 := hA (2 * y + 1) t (by omega) ht
  have a3 := hA s (2 * y + 1) hs (by omega)
  have a4 := hA (2 * y) t (by omega) ht
  rw [e_X10_withHole, b_X10_withHole_0, c_isThere h, qB_some, psh_some, b_X10_withHole_5, zb_0, if_pos (by omega), b_X10_withHole_8, ix_b y (by omega), c_isThere h, qB_some, psh_some, b_X10_withHole_15, zb_0, if_pos (by omega), b_X10_withHole_22, ix_a s (2 * y) (by omega) (by omega), if_pos (ix_r s (2 * y) (by omega) (by omega)), Int.toNat_natCast, b_X10_withHole_33, ix_b y (by omega), ix_a (2 * y + 1) t (by omega) (by omega), if_pos (ix_r (2 * y + 1) t (by omega) (by omega)), Int.toNat_natCast, b_X10_withHole_48, ix_a s (2 * y) (by omega) (by omega), ix_c s y (by omega) (by omega), if_pos (ix_r s (2 * y + 1) (by omega) (by omega)), Int.toNat_natCast]
  unfold whB
  dsimp only
  generalize v 35 (60 * s + 2 * y) = z1 at a1 ⊢
  generalize v 35 (60 * (2 * y + 1) + t) = z2 at a2 ⊢
  generalize v 35 (60 * s + (2 * y + 1)) = z3 at a3 ⊢
  rw [b_X10_withHole_64, ix_a (2 * y) t (by omega) (by omega), if_pos (ix_r (2 * y) t (by omega) (by omega)), Int.toNat_natCast]
  generalize v 35 (60 * (2 * y) + t) = z4 at a4 ⊢
  rw [b_X10_withHole_77, ix_a s t (by omega) (by omega), if_pos (ix_r s t (by omega) (by omega)), Int.toNat_natCast, b_X10_withHole_91]
  clear hA h
  rw [w32_id (z := z1 + 1) (by omega) (by omega), w32_id (z := z1 + 1 + z2) (by omega) (by omega), w32_id (z := z3 + 1) (by omega) (by omega), w32_id (z := z3 + 1 + z4) (by omega) (by omega)]
end DI
