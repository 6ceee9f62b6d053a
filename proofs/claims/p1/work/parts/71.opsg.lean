/-! THE FIRST STATE's calls: the ways, the news -/
section OG
variable {L : Nat} {xs : Nat → Int} {d : Nat} {v : Nat → Nat → Int}
theorem fr_WW (h : Fresh v) : WW v := by
  refine ⟨?_, ?_, ?_, fun i hi => ⟨?_, ?_⟩, ?_, ?_⟩
  · rw [f_11_0 h]; omega
  · rw [f_1_1 h]; omega
  · rw [f_1_2 h]; omega
  · rw [f_7_0_r h i (by omega) (by omega)]; omega
  · rw [f_9_0_r h i (by omega) (by omega)]; omega
  · rw [f_10_0_r h 0 (by omega) (by omega)]; omega
  · rw [f_10_0_r h 1 (by omega) (by omega)]; omega
theorem fr_CW (h : Fresh v) : CW v := by
  have m := M0_of h
  refine ⟨⟨?_, ?_, ?_, ?_, ?_⟩, fun i hi => ?_, fun i hi => ?_⟩
  · rw [f_11_0 h, g_64_140 m]
  · rw [f_1_1 h, g_63_6 m]
  · rw [f_1_2 h, g_63_8 m]
  · rw [f_10_0_r h 0 (by omega) (by omega), g_64_138 m]
  · rw [f_10_0_r h 1 (by omega) (by omega), g_64_139 m]
  · rw [f_1_1 h] at hi; omega
  · rw [f_1_2 h] at hi; omega
theorem fr_LM (h : Fresh v) : LM L xs v (fun _ _ _ => 1) := by
  refine ⟨fun _ _ _ => by dsimp only; omega, fun w hw d y s u _ _ _ => ⟨w, ?_, fun _ _ _ _ => rfl, fun _ _ => rfl⟩⟩
  have h5 : w 23 5 = 0 := by rw [hw.2 5 (by omega), f_23_5 h]
  rw [e_X5_minutes, b_X5_minutes_0, if_pos h5, b_X5_minutes_7]
theorem fr_LN (h : Fresh v) : LN L xs v (fun _ _ _ => 1) := by
  refine ⟨fun _ _ _ => by dsimp only; omega, fun w hw d y s u _ _ _ => ⟨w, ?_, fun _ _ _ => rfl, fun _ _ => rfl⟩⟩
  have h5 : w 63 14 = -1 := by rw [hw.2 14 (by omega), g_63_14 (M0_of h)]
  rw [e_X12_walksFor, b_X12_walksFor_0, if_pos (by omega), b_X12_walksFor_7]
theorem fr_Wz (h : Fresh v) : Wz L xs v (fun _ _ _ => 1) := ⟨fr_WW h, fr_CW h, fr_LM h, fr_LN h, g_63_22 (M0_of h), g_63_23 (M0_of h), g_63_24 (M0_of h)⟩
theorem fr_WN (h : Fresh v) : WN v := by
  refine ⟨?_, fun y hy => ?_, ?_⟩
  · rw [f_11_0 h]; omega
  · rw [f_3_0_r h y (by omega) (by omega)]; omega
  · rw [f_12_0 h]; omega
theorem fr_CN (h : Fresh v) : CN v := by
  have m := M0_of h
  refine ⟨?_, fun y hy => ?_, ?_⟩
  · rw [f_11_0 h, g_64_140 m]
  · rw [f_3_0_r h y (by omega) (by omega), g_64_0_r m y (by omega) (by omega)]
  · rw [f_12_0 h, g_64_141 m]
theorem opW_p {y1 y2 : Nat} {as : List pm_V} (h : opW 6 xs 900 v y1 y2 as) : pOK 6 xs v y1 y2 0 as := by
  obtain ⟨r, v1, v2, h1, -, h2, -⟩ := h
  exact ⟨r, v1, v2, h1, h2⟩
theorem op_7 (h : Fresh v) (y w : Int) (hy : y < 2147483648) : pOK 6 xs v nX11_way nX12_way 0 [(0, y), (0, w)] := opW_p (op_way (fr_Wz h) y w hy)
theorem op_8 (h : Fresh v) (a w : Int) : pOK 6 xs v nX11_far nX12_far 0 [(0, a), (0, w)] := opW_p (op_far (fr_Wz h) a w)
theorem op_9 (h : Fresh v) (a w : Int) (hw : w < 2147483648) : pOK 6 xs v nX11_reach nX12_reach 0 [(0, a), (0, w)] := opW_p (op_reach (fr_Wz h) a w hw)
theorem op_10 (h : Fresh v) : pOK 6 xs v nX11_widest nX12_widest 0 [] := opW_p (op_widest (fr_Wz h))
theorem op_11 (h : Fresh v) (w : Int) : pOK 6 xs v nX11_dig nX12_dig 0 [(0, w)] := opW_p (op_dig (fr_Wz h) w)
theorem op_12 (h : Fresh v) (y w : Int) (hy : y < 2147483648) : pOK 6 xs v nX11_spare nX12_spare 0 [(0, y), (0, w)] := opW_p (op_spare (fr_Wz h) y w hy)
theorem op_15 (h : Fresh v) (y : Int) (hy : y < 2147483648) : pOK 6 xs v nX11_news nX12_news 0 [(0, y)] := opW_p (op_news (fr_WN h) (fr_CN h) y hy)
theorem op_16 (h : Fresh v) (a w : Int) : pOK 6 xs v nX11_heard nX12_heard 0 [(0, a), (0, w)] := opW_p (op_heard (fr_WN h) (fr_CN h) a w)
theorem op_17 (h : Fresh v) (y mn w : Int) (hy : y < 2147483648) : pOK 6 xs v nX11_whence nX12_whence 0 [(0, y), (0, mn), (0, w)] := opW_p (op_whence (fr_WN h) (fr_CN h) y mn w hy)
theorem op_25 (h : Fresh v) (a z n w : Int) : pOK 6 xs v nX11_drawn nX12_drawn 0 [(0, a), (0, z), (0, n), (0, w)] := opW_p (op_drawn (fr_Wz h) a z n w)
theorem op_26 (h : Fresh v) (a : Int) : pOK 6 xs v nX11_go nX12_go 0 [(0, a)] := by
  obtain ⟨r, v1, v2, h1, h2, -⟩ := op_go (L := 6) (xs := xs) (d := 900) (fr_Wz h) (by rw [g_63_32 (M0_of h), f_47_0 h]) a
  exact ⟨r, v1, v2, h1, h2⟩
end OG
