-- ===== PART A: goes FIRST, ahead of the names: the tables' words, and 'selects' of the private methods out of them =====
/-- a private method of a class that the tables say can be made, by its rows of tables_1 -/
def lw_okq (q : MethodName × Nat) : Prop := (q.1.cls ≠ "java/lang/invoke/MethodHandle" ∧ q.1.cls ≠ "java/lang/invoke/VarHandle") ∧ Cond.instantiable q.1.cls q.2 ∈ tables_1 ∧ Cond.privateMethod q.1 ∈ tables_1 ∧ Cond.instanceMethod q.1 ∈ tables_1
theorem ts_1 : ∀ w, w ∈ tables_1_1 → w ∈ tables_1 := fun w h => (show w ∈ tables_1_1 ++ (tables_1_2 ++ (tables_1_3 ++ (tables_1_4 ++ (tables_1_5 ++ (tables_1_6 ++ (tables_1_7)))))) from List.mem_append_left _ h)
theorem ts_2 : ∀ w, w ∈ tables_1_2 → w ∈ tables_1 := fun w h => (show w ∈ tables_1_1 ++ (tables_1_2 ++ (tables_1_3 ++ (tables_1_4 ++ (tables_1_5 ++ (tables_1_6 ++ (tables_1_7)))))) from List.mem_append_right _ (List.mem_append_left _ h))
theorem ts_3 : ∀ w, w ∈ tables_1_3 → w ∈ tables_1 := fun w h => (show w ∈ tables_1_1 ++ (tables_1_2 ++ (tables_1_3 ++ (tables_1_4 ++ (tables_1_5 ++ (tables_1_6 ++ (tables_1_7)))))) from List.mem_append_right _ (List.mem_append_right _ (List.mem_append_left _ h)))
theorem ts_4 : ∀ w, w ∈ tables_1_4 → w ∈ tables_1 := fun w h => (show w ∈ tables_1_1 ++ (tables_1_2 ++ (tables_1_3 ++ (tables_1_4 ++ (tables_1_5 ++ (tables_1_6 ++ (tables_1_7)))))) from List.mem_append_right _ (List.mem_append_right _ (List.mem_append_right _ (List.mem_append_left _ h))))
theorem ts_5 : ∀ w, w ∈ tables_1_5 → w ∈ tables_1 := fun w h => (show w ∈ tables_1_1 ++ (tables_1_2 ++ (tables_1_3 ++ (tables_1_4 ++ (tables_1_5 ++ (tables_1_6 ++ (tables_1_7)))))) from List.mem_append_right _ (List.mem_append_right _ (List.mem_append_right _ (List.mem_append_right _ (List.mem_append_left _ h)))))
theorem ts_6 : ∀ w, w ∈ tables_1_6 → w ∈ tables_1 := fun w h => (show w ∈ tables_1_1 ++ (tables_1_2 ++ (tables_1_3 ++ (tables_1_4 ++ (tables_1_5 ++ (tables_1_6 ++ (tables_1_7)))))) from List.mem_append_right _ (List.mem_append_right _ (List.mem_append_right _ (List.mem_append_right _ (List.mem_append_right _ (List.mem_append_left _ h))))))
theorem ts_7 : ∀ w, w ∈ tables_1_7 → w ∈ tables_1 := fun w h => (show w ∈ tables_1_1 ++ (tables_1_2 ++ (tables_1_3 ++ (tables_1_4 ++ (tables_1_5 ++ (tables_1_6 ++ (tables_1_7)))))) from List.mem_append_right _ (List.mem_append_right _ (List.mem_append_right _ (List.mem_append_right _ (List.mem_append_right _ (List.mem_append_right _ (h)))))))
theorem lw_p0 : lw_okq (⟨"OneWall$Wall", "howMany", "(I)I"⟩, 3) := ⟨⟨by decide +kernel, by decide +kernel⟩, ts_1 _ (List.mem_of_getElem? (i := 31) rfl), ts_2 _ (List.mem_of_getElem? (i := 93) rfl), ts_2 _ (List.mem_of_getElem? (i := 94) rfl)⟩
theorem lw_p1 : lw_okq (⟨"OneWall", "arePlaces", "(I)Z"⟩, 12) := ⟨⟨by decide +kernel, by decide +kernel⟩, ts_1 _ (List.mem_of_getElem? (i := 23) rfl), ts_2 _ (List.mem_of_getElem? (i := 101) rfl), ts_2 _ (List.mem_of_getElem? (i := 102) rfl)⟩
theorem lw_p2 : lw_okq (⟨"OneWall", "change", "(III)V"⟩, 12) := ⟨⟨by decide +kernel, by decide +kernel⟩, ts_1 _ (List.mem_of_getElem? (i := 23) rfl), ts_2 _ (List.mem_of_getElem? (i := 134) rfl), ts_2 _ (List.mem_of_getElem? (i := 135) rfl)⟩
theorem lw_p3 : lw_okq (⟨"OneWall$Changes", "forgetFirst", "()V"⟩, 6) := ⟨⟨by decide +kernel, by decide +kernel⟩, ts_1 _ (List.mem_of_getElem? (i := 59) rfl), ts_2 _ (List.mem_of_getElem? (i := 142) rfl), ts_2 _ (List.mem_of_getElem? (i := 143) rfl)⟩
theorem lw_p4 : lw_okq (⟨"OneWall", "takeYard", "(IJI)Z"⟩, 12) := ⟨⟨by decide +kernel, by decide +kernel⟩, ts_1 _ (List.mem_of_getElem? (i := 23) rfl), ts_2 _ (List.mem_of_getElem? (i := 171) rfl), ts_2 _ (List.mem_of_getElem? (i := 172) rfl)⟩
theorem lw_p5 : lw_okq (⟨"OneWall$Shelves", "sortOf", "(I)I"⟩, 4) := ⟨⟨by decide +kernel, by decide +kernel⟩, ts_2 _ (List.mem_of_getElem? (i := 9) rfl), ts_2 _ (List.mem_of_getElem? (i := 179) rfl), ts_2 _ (List.mem_of_getElem? (i := 180) rfl)⟩
theorem lw_p6 : lw_okq (⟨"OneWall$Law", "readLine", "()V"⟩, 11) := ⟨⟨by decide +kernel, by decide +kernel⟩, ts_1 _ (List.mem_of_getElem? (i := 86) rfl), ts_2 _ (List.mem_of_getElem? (i := 208) rfl), ts_2 _ (List.mem_of_getElem? (i := 209) rfl)⟩
theorem lw_p7 : lw_okq (⟨"OneWall$Law", "readLevel", "(II)V"⟩, 11) := ⟨⟨by decide +kernel, by decide +kernel⟩, ts_1 _ (List.mem_of_getElem? (i := 86) rfl), ts_2 _ (List.mem_of_getElem? (i := 212) rfl), ts_2 _ (List.mem_of_getElem? (i := 213) rfl)⟩
theorem lw_p8 : lw_okq (⟨"OneWall$Law", "readOperand", "(I)V"⟩, 11) := ⟨⟨by decide +kernel, by decide +kernel⟩, ts_1 _ (List.mem_of_getElem? (i := 86) rfl), ts_2 _ (List.mem_of_getElem? (i := 216) rfl), ts_2 _ (List.mem_of_getElem? (i := 217) rfl)⟩
theorem lw_p9 : lw_okq (⟨"OneWall$Law", "skip", "(Ljava/lang/String;)I"⟩, 11) := ⟨⟨by decide +kernel, by decide +kernel⟩, ts_1 _ (List.mem_of_getElem? (i := 86) rfl), ts_2 _ (List.mem_of_getElem? (i := 220) rfl), ts_2 _ (List.mem_of_getElem? (i := 221) rfl)⟩
theorem lw_p10 : lw_okq (⟨"OneWall$Law", "write", "(I)V"⟩, 11) := ⟨⟨by decide +kernel, by decide +kernel⟩, ts_1 _ (List.mem_of_getElem? (i := 86) rfl), ts_3 _ (List.mem_of_getElem? (i := 61) rfl), ts_3 _ (List.mem_of_getElem? (i := 62) rfl)⟩
theorem lw_p11 : lw_okq (⟨"OneWall$Law", "isDigitAhead", "()Z"⟩, 11) := ⟨⟨by decide +kernel, by decide +kernel⟩, ts_1 _ (List.mem_of_getElem? (i := 86) rfl), ts_3 _ (List.mem_of_getElem? (i := 65) rfl), ts_3 _ (List.mem_of_getElem? (i := 66) rfl)⟩
theorem lw_p12 : lw_okq (⟨"OneWall$Law", "readNumber", "()V"⟩, 11) := ⟨⟨by decide +kernel, by decide +kernel⟩, ts_1 _ (List.mem_of_getElem? (i := 86) rfl), ts_3 _ (List.mem_of_getElem? (i := 69) rfl), ts_3 _ (List.mem_of_getElem? (i := 70) rfl)⟩
theorem lw_p13 : lw_okq (⟨"OneWall$Law", "fail", "()V"⟩, 11) := ⟨⟨by decide +kernel, by decide +kernel⟩, ts_1 _ (List.mem_of_getElem? (i := 86) rfl), ts_3 _ (List.mem_of_getElem? (i := 74) rfl), ts_3 _ (List.mem_of_getElem? (i := 75) rfl)⟩
theorem lw_p14 : lw_okq (⟨"OneWall$Law", "skipBelow", "(III)I"⟩, 11) := ⟨⟨by decide +kernel, by decide +kernel⟩, ts_1 _ (List.mem_of_getElem? (i := 86) rfl), ts_3 _ (List.mem_of_getElem? (i := 79) rfl), ts_3 _ (List.mem_of_getElem? (i := 80) rfl)⟩
theorem lw_p15 : lw_okq (⟨"OneWall$Law", "takeDraft", "()V"⟩, 11) := ⟨⟨by decide +kernel, by decide +kernel⟩, ts_1 _ (List.mem_of_getElem? (i := 86) rfl), ts_3 _ (List.mem_of_getElem? (i := 93) rfl), ts_3 _ (List.mem_of_getElem? (i := 94) rfl)⟩
def lw_privs_1 : List (MethodName × Nat) := [(⟨"OneWall$Wall", "howMany", "(I)I"⟩, 3), (⟨"OneWall", "arePlaces", "(I)Z"⟩, 12), (⟨"OneWall", "change", "(III)V"⟩, 12), (⟨"OneWall$Changes", "forgetFirst", "()V"⟩, 6), (⟨"OneWall", "takeYard", "(IJI)Z"⟩, 12), (⟨"OneWall$Shelves", "sortOf", "(I)I"⟩, 4), (⟨"OneWall$Law", "readLine", "()V"⟩, 11), (⟨"OneWall$Law", "readLevel", "(II)V"⟩, 11), (⟨"OneWall$Law", "readOperand", "(I)V"⟩, 11), (⟨"OneWall$Law", "skip", "(Ljava/lang/String;)I"⟩, 11), (⟨"OneWall$Law", "write", "(I)V"⟩, 11), (⟨"OneWall$Law", "isDigitAhead", "()Z"⟩, 11), (⟨"OneWall$Law", "readNumber", "()V"⟩, 11), (⟨"OneWall$Law", "fail", "()V"⟩, 11), (⟨"OneWall$Law", "skipBelow", "(III)I"⟩, 11), (⟨"OneWall$Law", "takeDraft", "()V"⟩, 11)]
theorem lw_r1 : ∀ q ∈ lw_privs_1, lw_okq q := List.forall_mem_cons.mpr ⟨lw_p0, List.forall_mem_cons.mpr ⟨lw_p1, List.forall_mem_cons.mpr ⟨lw_p2, List.forall_mem_cons.mpr ⟨lw_p3, List.forall_mem_cons.mpr ⟨lw_p4, List.forall_mem_cons.mpr ⟨lw_p5, List.forall_mem_cons.mpr ⟨lw_p6, List.forall_mem_cons.mpr ⟨lw_p7, List.forall_mem_cons.mpr ⟨lw_p8, List.forall_mem_cons.mpr ⟨lw_p9, List.forall_mem_cons.mpr ⟨lw_p10, List.forall_mem_cons.mpr ⟨lw_p11, List.forall_mem_cons.mpr ⟨lw_p12, List.forall_mem_cons.mpr ⟨lw_p13, List.forall_mem_cons.mpr ⟨lw_p14, List.forall_mem_cons.mpr ⟨lw_p15, fun _ h => absurd h List.not_mem_nil⟩⟩⟩⟩⟩⟩⟩⟩⟩⟩⟩⟩⟩⟩⟩⟩
theorem lw_p16 : lw_okq (⟨"OneWall$Ways", "layAlong", "(LOneWall$Wall;LOneWall$Law;)V"⟩, 10) := ⟨⟨by decide +kernel, by decide +kernel⟩, ts_1 _ (List.mem_of_getElem? (i := 139) rfl), ts_3 _ (List.mem_of_getElem? (i := 107) rfl), ts_3 _ (List.mem_of_getElem? (i := 108) rfl)⟩
theorem lw_p17 : lw_okq (⟨"OneWall$Law", "workOut", "()I"⟩, 11) := ⟨⟨by decide +kernel, by decide +kernel⟩, ts_1 _ (List.mem_of_getElem? (i := 86) rfl), ts_3 _ (List.mem_of_getElem? (i := 116) rfl), ts_3 _ (List.mem_of_getElem? (i := 117) rfl)⟩
theorem lw_p18 : lw_okq (⟨"OneWall$Law", "pop", "()I"⟩, 11) := ⟨⟨by decide +kernel, by decide +kernel⟩, ts_1 _ (List.mem_of_getElem? (i := 86) rfl), ts_3 _ (List.mem_of_getElem? (i := 120) rfl), ts_3 _ (List.mem_of_getElem? (i := 121) rfl)⟩
theorem lw_p19 : lw_okq (⟨"OneWall$Law", "workOutSign", "(I)V"⟩, 11) := ⟨⟨by decide +kernel, by decide +kernel⟩, ts_1 _ (List.mem_of_getElem? (i := 86) rfl), ts_3 _ (List.mem_of_getElem? (i := 124) rfl), ts_3 _ (List.mem_of_getElem? (i := 125) rfl)⟩
theorem lw_p20 : lw_okq (⟨"OneWall$Law", "push", "(I)V"⟩, 11) := ⟨⟨by decide +kernel, by decide +kernel⟩, ts_1 _ (List.mem_of_getElem? (i := 86) rfl), ts_3 _ (List.mem_of_getElem? (i := 128) rfl), ts_3 _ (List.mem_of_getElem? (i := 129) rfl)⟩
theorem lw_p21 : lw_okq (⟨"OneWall$Ways", "add", "(IIII)V"⟩, 10) := ⟨⟨by decide +kernel, by decide +kernel⟩, ts_1 _ (List.mem_of_getElem? (i := 139) rfl), ts_3 _ (List.mem_of_getElem? (i := 140) rfl), ts_3 _ (List.mem_of_getElem? (i := 141) rfl)⟩
theorem lw_p22 : lw_okq (⟨"OneWall$Ways", "addBothWays", "(IIII)V"⟩, 10) := ⟨⟨by decide +kernel, by decide +kernel⟩, ts_1 _ (List.mem_of_getElem? (i := 139) rfl), ts_3 _ (List.mem_of_getElem? (i := 155) rfl), ts_3 _ (List.mem_of_getElem? (i := 156) rfl)⟩
theorem lw_p23 : lw_okq (⟨"OneWall$Ways", "layRound", "(II)V"⟩, 10) := ⟨⟨by decide +kernel, by decide +kernel⟩, ts_1 _ (List.mem_of_getElem? (i := 139) rfl), ts_3 _ (List.mem_of_getElem? (i := 164) rfl), ts_3 _ (List.mem_of_getElem? (i := 165) rfl)⟩
theorem lw_p24 : lw_okq (⟨"OneWall$Ways", "startAt", "(I)V"⟩, 10) := ⟨⟨by decide +kernel, by decide +kernel⟩, ts_1 _ (List.mem_of_getElem? (i := 139) rfl), ts_3 _ (List.mem_of_getElem? (i := 172) rfl), ts_3 _ (List.mem_of_getElem? (i := 173) rfl)⟩
theorem lw_p25 : lw_okq (⟨"OneWall$Ways", "withHole", "(III)I"⟩, 10) := ⟨⟨by decide +kernel, by decide +kernel⟩, ts_1 _ (List.mem_of_getElem? (i := 139) rfl), ts_3 _ (List.mem_of_getElem? (i := 233) rfl), ts_3 _ (List.mem_of_getElem? (i := 234) rfl)⟩
theorem lw_p26 : lw_okq (⟨"OneWall", "areYards", "(I)Z"⟩, 12) := ⟨⟨by decide +kernel, by decide +kernel⟩, ts_1 _ (List.mem_of_getElem? (i := 23) rfl), ts_4 _ (List.mem_of_getElem? (i := 7) rfl), ts_4 _ (List.mem_of_getElem? (i := 8) rfl)⟩
theorem lw_p27 : lw_okq (⟨"OneWall", "upwardAt", "(II)I"⟩, 12) := ⟨⟨by decide +kernel, by decide +kernel⟩, ts_1 _ (List.mem_of_getElem? (i := 23) rfl), ts_4 _ (List.mem_of_getElem? (i := 11) rfl), ts_4 _ (List.mem_of_getElem? (i := 12) rfl)⟩
theorem lw_p28 : lw_okq (⟨"OneWall", "turningAt", "(I)I"⟩, 12) := ⟨⟨by decide +kernel, by decide +kernel⟩, ts_1 _ (List.mem_of_getElem? (i := 23) rfl), ts_4 _ (List.mem_of_getElem? (i := 15) rfl), ts_4 _ (List.mem_of_getElem? (i := 16) rfl)⟩
theorem lw_p29 : lw_okq (⟨"OneWall", "downwardAt", "(II)I"⟩, 12) := ⟨⟨by decide +kernel, by decide +kernel⟩, ts_1 _ (List.mem_of_getElem? (i := 23) rfl), ts_4 _ (List.mem_of_getElem? (i := 19) rfl), ts_4 _ (List.mem_of_getElem? (i := 20) rfl)⟩
theorem lw_p30 : lw_okq (⟨"OneWall$Debts", "clearFirstRing", "()Z"⟩, 2) := ⟨⟨by decide +kernel, by decide +kernel⟩, ts_1 _ (List.mem_of_getElem? (i := 192) rfl), ts_4 _ (List.mem_of_getElem? (i := 131) rfl), ts_4 _ (List.mem_of_getElem? (i := 132) rfl)⟩
theorem lw_p31 : lw_okq (⟨"OneWall$Debts", "clearRing", "(III)Z"⟩, 2) := ⟨⟨by decide +kernel, by decide +kernel⟩, ts_1 _ (List.mem_of_getElem? (i := 192) rfl), ts_4 _ (List.mem_of_getElem? (i := 135) rfl), ts_4 _ (List.mem_of_getElem? (i := 136) rfl)⟩
def lw_privs_2 : List (MethodName × Nat) := [(⟨"OneWall$Ways", "layAlong", "(LOneWall$Wall;LOneWall$Law;)V"⟩, 10), (⟨"OneWall$Law", "workOut", "()I"⟩, 11), (⟨"OneWall$Law", "pop", "()I"⟩, 11), (⟨"OneWall$Law", "workOutSign", "(I)V"⟩, 11), (⟨"OneWall$Law", "push", "(I)V"⟩, 11), (⟨"OneWall$Ways", "add", "(IIII)V"⟩, 10), (⟨"OneWall$Ways", "addBothWays", "(IIII)V"⟩, 10), (⟨"OneWall$Ways", "layRound", "(II)V"⟩, 10), (⟨"OneWall$Ways", "startAt", "(I)V"⟩, 10), (⟨"OneWall$Ways", "withHole", "(III)I"⟩, 10), (⟨"OneWall", "areYards", "(I)Z"⟩, 12), (⟨"OneWall", "upwardAt", "(II)I"⟩, 12), (⟨"OneWall", "turningAt", "(I)I"⟩, 12), (⟨"OneWall", "downwardAt", "(II)I"⟩, 12), (⟨"OneWall$Debts", "clearFirstRing", "()Z"⟩, 2), (⟨"OneWall$Debts", "clearRing", "(III)Z"⟩, 2)]
theorem lw_r2 : ∀ q ∈ lw_privs_2, lw_okq q := List.forall_mem_cons.mpr ⟨lw_p16, List.forall_mem_cons.mpr ⟨lw_p17, List.forall_mem_cons.mpr ⟨lw_p18, List.forall_mem_cons.mpr ⟨lw_p19, List.forall_mem_cons.mpr ⟨lw_p20, List.forall_mem_cons.mpr ⟨lw_p21, List.forall_mem_cons.mpr ⟨lw_p22, List.forall_mem_cons.mpr ⟨lw_p23, List.forall_mem_cons.mpr ⟨lw_p24, List.forall_mem_cons.mpr ⟨lw_p25, List.forall_mem_cons.mpr ⟨lw_p26, List.forall_mem_cons.mpr ⟨lw_p27, List.forall_mem_cons.mpr ⟨lw_p28, List.forall_mem_cons.mpr ⟨lw_p29, List.forall_mem_cons.mpr ⟨lw_p30, List.forall_mem_cons.mpr ⟨lw_p31, fun _ h => absurd h List.not_mem_nil⟩⟩⟩⟩⟩⟩⟩⟩⟩⟩⟩⟩⟩⟩⟩⟩
theorem lw_p32 : lw_okq (⟨"OneWall$Ways", "lookAhead", "(I)I"⟩, 10) := ⟨⟨by decide +kernel, by decide +kernel⟩, ts_1 _ (List.mem_of_getElem? (i := 139) rfl), ts_4 _ (List.mem_of_getElem? (i := 185) rfl), ts_4 _ (List.mem_of_getElem? (i := 186) rfl)⟩
theorem lw_p33 : lw_okq (⟨"OneWall$Ways", "aheadAt", "(I)I"⟩, 10) := ⟨⟨by decide +kernel, by decide +kernel⟩, ts_1 _ (List.mem_of_getElem? (i := 139) rfl), ts_4 _ (List.mem_of_getElem? (i := 189) rfl), ts_4 _ (List.mem_of_getElem? (i := 190) rfl)⟩
theorem lw_p34 : lw_okq (⟨"OneWall$Bodies", "run", "(IIIII)I"⟩, 4) := ⟨⟨by decide +kernel, by decide +kernel⟩, ts_1 _ (List.mem_of_getElem? (i := 228) rfl), ts_5 _ (List.mem_of_getElem? (i := 35) rfl), ts_5 _ (List.mem_of_getElem? (i := 36) rfl)⟩
theorem lw_p35 : lw_okq (⟨"OneWall$Bodies", "note", "(I)V"⟩, 4) := ⟨⟨by decide +kernel, by decide +kernel⟩, ts_1 _ (List.mem_of_getElem? (i := 228) rfl), ts_5 _ (List.mem_of_getElem? (i := 45) rfl), ts_5 _ (List.mem_of_getElem? (i := 46) rfl)⟩
theorem lw_p36 : lw_okq (⟨"OneWall$Bodies", "runBody", "(IIIII)I"⟩, 4) := ⟨⟨by decide +kernel, by decide +kernel⟩, ts_1 _ (List.mem_of_getElem? (i := 228) rfl), ts_5 _ (List.mem_of_getElem? (i := 49) rfl), ts_5 _ (List.mem_of_getElem? (i := 50) rfl)⟩
theorem lw_p37 : lw_okq (⟨"OneWallModel", "isYard", "(J)Z"⟩, 49) := ⟨⟨by decide +kernel, by decide +kernel⟩, ts_5 _ (List.mem_of_getElem? (i := 149) rfl), ts_6 _ (List.mem_of_getElem? (i := 76) rfl), ts_6 _ (List.mem_of_getElem? (i := 77) rfl)⟩
theorem lw_p38 : lw_okq (⟨"OneWallModel", "yardMany", "()I"⟩, 49) := ⟨⟨by decide +kernel, by decide +kernel⟩, ts_5 _ (List.mem_of_getElem? (i := 149) rfl), ts_6 _ (List.mem_of_getElem? (i := 80) rfl), ts_6 _ (List.mem_of_getElem? (i := 81) rfl)⟩
theorem lw_p39 : lw_okq (⟨"OneWallModel", "addsHole", "(I)I"⟩, 49) := ⟨⟨by decide +kernel, by decide +kernel⟩, ts_5 _ (List.mem_of_getElem? (i := 149) rfl), ts_6 _ (List.mem_of_getElem? (i := 87) rfl), ts_6 _ (List.mem_of_getElem? (i := 88) rfl)⟩
theorem lw_p40 : lw_okq (⟨"OneWallModel", "isPlace", "(J)Z"⟩, 49) := ⟨⟨by decide +kernel, by decide +kernel⟩, ts_5 _ (List.mem_of_getElem? (i := 149) rfl), ts_6 _ (List.mem_of_getElem? (i := 95) rfl), ts_6 _ (List.mem_of_getElem? (i := 96) rfl)⟩
theorem lw_p41 : lw_okq (⟨"OneWallModel", "placeOf", "(II)I"⟩, 49) := ⟨⟨by decide +kernel, by decide +kernel⟩, ts_5 _ (List.mem_of_getElem? (i := 149) rfl), ts_6 _ (List.mem_of_getElem? (i := 103) rfl), ts_6 _ (List.mem_of_getElem? (i := 104) rfl)⟩
theorem lw_p42 : lw_okq (⟨"OneWallModel", "becomes", "(II)I"⟩, 49) := ⟨⟨by decide +kernel, by decide +kernel⟩, ts_5 _ (List.mem_of_getElem? (i := 149) rfl), ts_6 _ (List.mem_of_getElem? (i := 122) rfl), ts_6 _ (List.mem_of_getElem? (i := 123) rfl)⟩
theorem lw_p43 : lw_okq (⟨"OneWallModel", "workOut", "(II)I"⟩, 49) := ⟨⟨by decide +kernel, by decide +kernel⟩, ts_5 _ (List.mem_of_getElem? (i := 149) rfl), ts_6 _ (List.mem_of_getElem? (i := 149) rfl), ts_6 _ (List.mem_of_getElem? (i := 150) rfl)⟩
theorem lw_p44 : lw_okq (⟨"OneWallModel", "either", "()I"⟩, 49) := ⟨⟨by decide +kernel, by decide +kernel⟩, ts_5 _ (List.mem_of_getElem? (i := 149) rfl), ts_6 _ (List.mem_of_getElem? (i := 153) rfl), ts_6 _ (List.mem_of_getElem? (i := 154) rfl)⟩
theorem lw_p45 : lw_okq (⟨"OneWallModel", "both", "()I"⟩, 49) := ⟨⟨by decide +kernel, by decide +kernel⟩, ts_5 _ (List.mem_of_getElem? (i := 149) rfl), ts_6 _ (List.mem_of_getElem? (i := 157) rfl), ts_6 _ (List.mem_of_getElem? (i := 158) rfl)⟩
theorem lw_p46 : lw_okq (⟨"OneWallModel", "compared", "()I"⟩, 49) := ⟨⟨by decide +kernel, by decide +kernel⟩, ts_5 _ (List.mem_of_getElem? (i := 149) rfl), ts_6 _ (List.mem_of_getElem? (i := 161) rfl), ts_6 _ (List.mem_of_getElem? (i := 162) rfl)⟩
theorem lw_p47 : lw_okq (⟨"OneWallModel", "sums", "()I"⟩, 49) := ⟨⟨by decide +kernel, by decide +kernel⟩, ts_5 _ (List.mem_of_getElem? (i := 149) rfl), ts_6 _ (List.mem_of_getElem? (i := 165) rfl), ts_6 _ (List.mem_of_getElem? (i := 166) rfl)⟩
def lw_privs_3 : List (MethodName × Nat) := [(⟨"OneWall$Ways", "lookAhead", "(I)I"⟩, 10), (⟨"OneWall$Ways", "aheadAt", "(I)I"⟩, 10), (⟨"OneWall$Bodies", "run", "(IIIII)I"⟩, 4), (⟨"OneWall$Bodies", "note", "(I)V"⟩, 4), (⟨"OneWall$Bodies", "runBody", "(IIIII)I"⟩, 4), (⟨"OneWallModel", "isYard", "(J)Z"⟩, 49), (⟨"OneWallModel", "yardMany", "()I"⟩, 49), (⟨"OneWallModel", "addsHole", "(I)I"⟩, 49), (⟨"OneWallModel", "isPlace", "(J)Z"⟩, 49), (⟨"OneWallModel", "placeOf", "(II)I"⟩, 49), (⟨"OneWallModel", "becomes", "(II)I"⟩, 49), (⟨"OneWallModel", "workOut", "(II)I"⟩, 49), (⟨"OneWallModel", "either", "()I"⟩, 49), (⟨"OneWallModel", "both", "()I"⟩, 49), (⟨"OneWallModel", "compared", "()I"⟩, 49), (⟨"OneWallModel", "sums", "()I"⟩, 49)]
theorem lw_r3 : ∀ q ∈ lw_privs_3, lw_okq q := List.forall_mem_cons.mpr ⟨lw_p32, List.forall_mem_cons.mpr ⟨lw_p33, List.forall_mem_cons.mpr ⟨lw_p34, List.forall_mem_cons.mpr ⟨lw_p35, List.forall_mem_cons.mpr ⟨lw_p36, List.forall_mem_cons.mpr ⟨lw_p37, List.forall_mem_cons.mpr ⟨lw_p38, List.forall_mem_cons.mpr ⟨lw_p39, List.forall_mem_cons.mpr ⟨lw_p40, List.forall_mem_cons.mpr ⟨lw_p41, List.forall_mem_cons.mpr ⟨lw_p42, List.forall_mem_cons.mpr ⟨lw_p43, List.forall_mem_cons.mpr ⟨lw_p44, List.forall_mem_cons.mpr ⟨lw_p45, List.forall_mem_cons.mpr ⟨lw_p46, List.forall_mem_cons.mpr ⟨lw_p47, fun _ h => absurd h List.not_mem_nil⟩⟩⟩⟩⟩⟩⟩⟩⟩⟩⟩⟩⟩⟩⟩⟩
theorem lw_p48 : lw_okq (⟨"OneWallModel", "product", "()I"⟩, 49) := ⟨⟨by decide +kernel, by decide +kernel⟩, ts_5 _ (List.mem_of_getElem? (i := 149) rfl), ts_6 _ (List.mem_of_getElem? (i := 169) rfl), ts_6 _ (List.mem_of_getElem? (i := 170) rfl)⟩
theorem lw_p49 : lw_okq (⟨"OneWallModel", "one", "()I"⟩, 49) := ⟨⟨by decide +kernel, by decide +kernel⟩, ts_5 _ (List.mem_of_getElem? (i := 149) rfl), ts_6 _ (List.mem_of_getElem? (i := 173) rfl), ts_6 _ (List.mem_of_getElem? (i := 174) rfl)⟩
theorem lw_p50 : lw_okq (⟨"OneWallModel", "byteAt", "()I"⟩, 49) := ⟨⟨by decide +kernel, by decide +kernel⟩, ts_5 _ (List.mem_of_getElem? (i := 149) rfl), ts_6 _ (List.mem_of_getElem? (i := 177) rfl), ts_6 _ (List.mem_of_getElem? (i := 178) rfl)⟩
theorem lw_p51 : lw_okq (⟨"OneWallModel", "wrong", "()I"⟩, 49) := ⟨⟨by decide +kernel, by decide +kernel⟩, ts_5 _ (List.mem_of_getElem? (i := 149) rfl), ts_6 _ (List.mem_of_getElem? (i := 181) rfl), ts_6 _ (List.mem_of_getElem? (i := 182) rfl)⟩
theorem lw_p52 : lw_okq (⟨"OneWallModel", "takes", "(I)Z"⟩, 49) := ⟨⟨by decide +kernel, by decide +kernel⟩, ts_5 _ (List.mem_of_getElem? (i := 149) rfl), ts_6 _ (List.mem_of_getElem? (i := 185) rfl), ts_6 _ (List.mem_of_getElem? (i := 186) rfl)⟩
theorem lw_p53 : lw_okq (⟨"OneWallModel", "isAb", "(I)Z"⟩, 49) := ⟨⟨by decide +kernel, by decide +kernel⟩, ts_5 _ (List.mem_of_getElem? (i := 149) rfl), ts_6 _ (List.mem_of_getElem? (i := 196) rfl), ts_6 _ (List.mem_of_getElem? (i := 197) rfl)⟩
theorem lw_p54 : lw_okq (⟨"OneWallModel", "asksSteps", "()V"⟩, 49) := ⟨⟨by decide +kernel, by decide +kernel⟩, ts_5 _ (List.mem_of_getElem? (i := 149) rfl), ts_6 _ (List.mem_of_getElem? (i := 200) rfl), ts_6 _ (List.mem_of_getElem? (i := 201) rfl)⟩
theorem lw_p55 : lw_okq (⟨"OneWallModel", "walksFor", "(III)I"⟩, 49) := ⟨⟨by decide +kernel, by decide +kernel⟩, ts_5 _ (List.mem_of_getElem? (i := 149) rfl), ts_6 _ (List.mem_of_getElem? (i := 205) rfl), ts_6 _ (List.mem_of_getElem? (i := 206) rfl)⟩
theorem lw_p56 : lw_okq (⟨"OneWallModel", "thickOf", "(I)I"⟩, 49) := ⟨⟨by decide +kernel, by decide +kernel⟩, ts_5 _ (List.mem_of_getElem? (i := 149) rfl), ts_6 _ (List.mem_of_getElem? (i := 209) rfl), ts_6 _ (List.mem_of_getElem? (i := 210) rfl)⟩
theorem lw_p57 : lw_okq (⟨"OneWallModel", "warmOf", "(I)I"⟩, 49) := ⟨⟨by decide +kernel, by decide +kernel⟩, ts_5 _ (List.mem_of_getElem? (i := 149) rfl), ts_6 _ (List.mem_of_getElem? (i := 213) rfl), ts_6 _ (List.mem_of_getElem? (i := 214) rfl)⟩
theorem lw_p58 : lw_okq (⟨"OneWallModel", "ownerOf", "(I)I"⟩, 49) := ⟨⟨by decide +kernel, by decide +kernel⟩, ts_5 _ (List.mem_of_getElem? (i := 149) rfl), ts_6 _ (List.mem_of_getElem? (i := 217) rfl), ts_6 _ (List.mem_of_getElem? (i := 218) rfl)⟩
theorem lw_p59 : lw_okq (⟨"OneWallModel", "leads", "(III)V"⟩, 49) := ⟨⟨by decide +kernel, by decide +kernel⟩, ts_5 _ (List.mem_of_getElem? (i := 149) rfl), ts_6 _ (List.mem_of_getElem? (i := 221) rfl), ts_6 _ (List.mem_of_getElem? (i := 222) rfl)⟩
theorem lw_p60 : lw_okq (⟨"OneWallModel", "through", "(II)V"⟩, 49) := ⟨⟨by decide +kernel, by decide +kernel⟩, ts_5 _ (List.mem_of_getElem? (i := 149) rfl), ts_6 _ (List.mem_of_getElem? (i := 225) rfl), ts_6 _ (List.mem_of_getElem? (i := 226) rfl)⟩
theorem lw_p61 : lw_okq (⟨"OneWallModel", "wayFrom", "(II)I"⟩, 49) := ⟨⟨by decide +kernel, by decide +kernel⟩, ts_5 _ (List.mem_of_getElem? (i := 149) rfl), ts_6 _ (List.mem_of_getElem? (i := 229) rfl), ts_6 _ (List.mem_of_getElem? (i := 230) rfl)⟩
theorem lw_p62 : lw_okq (⟨"OneWallModel", "goesFrom", "(I)V"⟩, 49) := ⟨⟨by decide +kernel, by decide +kernel⟩, ts_5 _ (List.mem_of_getElem? (i := 149) rfl), ts_6 _ (List.mem_of_getElem? (i := 233) rfl), ts_6 _ (List.mem_of_getElem? (i := 234) rfl)⟩
theorem lw_p63 : lw_okq (⟨"OneWallModel", "widestNow", "()I"⟩, 49) := ⟨⟨by decide +kernel, by decide +kernel⟩, ts_5 _ (List.mem_of_getElem? (i := 149) rfl), ts_7 _ (List.mem_of_getElem? (i := 9) rfl), ts_7 _ (List.mem_of_getElem? (i := 10) rfl)⟩
def lw_privs_4 : List (MethodName × Nat) := [(⟨"OneWallModel", "product", "()I"⟩, 49), (⟨"OneWallModel", "one", "()I"⟩, 49), (⟨"OneWallModel", "byteAt", "()I"⟩, 49), (⟨"OneWallModel", "wrong", "()I"⟩, 49), (⟨"OneWallModel", "takes", "(I)Z"⟩, 49), (⟨"OneWallModel", "isAb", "(I)Z"⟩, 49), (⟨"OneWallModel", "asksSteps", "()V"⟩, 49), (⟨"OneWallModel", "walksFor", "(III)I"⟩, 49), (⟨"OneWallModel", "thickOf", "(I)I"⟩, 49), (⟨"OneWallModel", "warmOf", "(I)I"⟩, 49), (⟨"OneWallModel", "ownerOf", "(I)I"⟩, 49), (⟨"OneWallModel", "leads", "(III)V"⟩, 49), (⟨"OneWallModel", "through", "(II)V"⟩, 49), (⟨"OneWallModel", "wayFrom", "(II)I"⟩, 49), (⟨"OneWallModel", "goesFrom", "(I)V"⟩, 49), (⟨"OneWallModel", "widestNow", "()I"⟩, 49)]
theorem lw_r4 : ∀ q ∈ lw_privs_4, lw_okq q := List.forall_mem_cons.mpr ⟨lw_p48, List.forall_mem_cons.mpr ⟨lw_p49, List.forall_mem_cons.mpr ⟨lw_p50, List.forall_mem_cons.mpr ⟨lw_p51, List.forall_mem_cons.mpr ⟨lw_p52, List.forall_mem_cons.mpr ⟨lw_p53, List.forall_mem_cons.mpr ⟨lw_p54, List.forall_mem_cons.mpr ⟨lw_p55, List.forall_mem_cons.mpr ⟨lw_p56, List.forall_mem_cons.mpr ⟨lw_p57, List.forall_mem_cons.mpr ⟨lw_p58, List.forall_mem_cons.mpr ⟨lw_p59, List.forall_mem_cons.mpr ⟨lw_p60, List.forall_mem_cons.mpr ⟨lw_p61, List.forall_mem_cons.mpr ⟨lw_p62, List.forall_mem_cons.mpr ⟨lw_p63, fun _ h => absurd h List.not_mem_nil⟩⟩⟩⟩⟩⟩⟩⟩⟩⟩⟩⟩⟩⟩⟩⟩
theorem lw_p64 : lw_okq (⟨"OneWallModel", "areYards", "(I)Z"⟩, 49) := ⟨⟨by decide +kernel, by decide +kernel⟩, ts_5 _ (List.mem_of_getElem? (i := 149) rfl), ts_7 _ (List.mem_of_getElem? (i := 25) rfl), ts_7 _ (List.mem_of_getElem? (i := 26) rfl)⟩
theorem lw_p65 : lw_okq (⟨"OneWallModel", "pacing", "(III)I"⟩, 49) := ⟨⟨by decide +kernel, by decide +kernel⟩, ts_5 _ (List.mem_of_getElem? (i := 149) rfl), ts_7 _ (List.mem_of_getElem? (i := 30) rfl), ts_7 _ (List.mem_of_getElem? (i := 31) rfl)⟩
theorem lw_p66 : lw_okq (⟨"OneWallModel", "isHoleIn", "(I)Z"⟩, 49) := ⟨⟨by decide +kernel, by decide +kernel⟩, ts_5 _ (List.mem_of_getElem? (i := 149) rfl), ts_7 _ (List.mem_of_getElem? (i := 38) rfl), ts_7 _ (List.mem_of_getElem? (i := 39) rfl)⟩
theorem lw_p67 : lw_okq (⟨"OneWallModel", "asksNews", "()V"⟩, 49) := ⟨⟨by decide +kernel, by decide +kernel⟩, ts_5 _ (List.mem_of_getElem? (i := 149) rfl), ts_7 _ (List.mem_of_getElem? (i := 46) rfl), ts_7 _ (List.mem_of_getElem? (i := 47) rfl)⟩
theorem lw_p68 : lw_okq (⟨"OneWallModel", "beginsFrost", "()V"⟩, 49) := ⟨⟨by decide +kernel, by decide +kernel⟩, ts_5 _ (List.mem_of_getElem? (i := 149) rfl), ts_7 _ (List.mem_of_getElem? (i := 64) rfl), ts_7 _ (List.mem_of_getElem? (i := 65) rfl)⟩
theorem lw_p69 : lw_okq (⟨"OneWallModel", "freezes", "()V"⟩, 49) := ⟨⟨by decide +kernel, by decide +kernel⟩, ts_5 _ (List.mem_of_getElem? (i := 149) rfl), ts_7 _ (List.mem_of_getElem? (i := 68) rfl), ts_7 _ (List.mem_of_getElem? (i := 69) rfl)⟩
theorem lw_p70 : lw_okq (⟨"OneWallModel", "clears", "()Z"⟩, 49) := ⟨⟨by decide +kernel, by decide +kernel⟩, ts_5 _ (List.mem_of_getElem? (i := 149) rfl), ts_7 _ (List.mem_of_getElem? (i := 95) rfl), ts_7 _ (List.mem_of_getElem? (i := 96) rfl)⟩
theorem lw_p71 : lw_okq (⟨"OneWallModel", "shortsIs", "(I)I"⟩, 49) := ⟨⟨by decide +kernel, by decide +kernel⟩, ts_5 _ (List.mem_of_getElem? (i := 149) rfl), ts_7 _ (List.mem_of_getElem? (i := 103) rfl), ts_7 _ (List.mem_of_getElem? (i := 104) rfl)⟩
theorem lw_p72 : lw_okq (⟨"OneWallModel", "firstFalse", "(I)I"⟩, 49) := ⟨⟨by decide +kernel, by decide +kernel⟩, ts_5 _ (List.mem_of_getElem? (i := 149) rfl), ts_7 _ (List.mem_of_getElem? (i := 107) rfl), ts_7 _ (List.mem_of_getElem? (i := 108) rfl)⟩
theorem lw_p73 : lw_okq (⟨"OneWallModel", "itemAt", "(II)J"⟩, 49) := ⟨⟨by decide +kernel, by decide +kernel⟩, ts_5 _ (List.mem_of_getElem? (i := 149) rfl), ts_7 _ (List.mem_of_getElem? (i := 111) rfl), ts_7 _ (List.mem_of_getElem? (i := 112) rfl)⟩
theorem lw_p74 : lw_okq (⟨"OneWallModel", "isBody", "(I)Z"⟩, 49) := ⟨⟨by decide +kernel, by decide +kernel⟩, ts_5 _ (List.mem_of_getElem? (i := 149) rfl), ts_7 _ (List.mem_of_getElem? (i := 159) rfl), ts_7 _ (List.mem_of_getElem? (i := 160) rfl)⟩
theorem lw_p75 : lw_okq (⟨"OneWallModel", "standsAs", "(II)I"⟩, 49) := ⟨⟨by decide +kernel, by decide +kernel⟩, ts_5 _ (List.mem_of_getElem? (i := 149) rfl), ts_7 _ (List.mem_of_getElem? (i := 163) rfl), ts_7 _ (List.mem_of_getElem? (i := 164) rfl)⟩
theorem lw_p76 : lw_okq (⟨"OneWallModel", "begins", "(I)V"⟩, 49) := ⟨⟨by decide +kernel, by decide +kernel⟩, ts_5 _ (List.mem_of_getElem? (i := 149) rfl), ts_7 _ (List.mem_of_getElem? (i := 167) rfl), ts_7 _ (List.mem_of_getElem? (i := 168) rfl)⟩
theorem lw_p77 : lw_okq (⟨"OneWallModel", "bearsAs", "(II)I"⟩, 49) := ⟨⟨by decide +kernel, by decide +kernel⟩, ts_5 _ (List.mem_of_getElem? (i := 149) rfl), ts_7 _ (List.mem_of_getElem? (i := 171) rfl), ts_7 _ (List.mem_of_getElem? (i := 172) rfl)⟩
theorem lw_p78 : lw_okq (⟨"OneWallModel", "knocksAs", "(II)I"⟩, 49) := ⟨⟨by decide +kernel, by decide +kernel⟩, ts_5 _ (List.mem_of_getElem? (i := 149) rfl), ts_7 _ (List.mem_of_getElem? (i := 175) rfl), ts_7 _ (List.mem_of_getElem? (i := 176) rfl)⟩
theorem lw_p79 : lw_okq (⟨"OneWallModel", "tellsAs", "(II)I"⟩, 49) := ⟨⟨by decide +kernel, by decide +kernel⟩, ts_5 _ (List.mem_of_getElem? (i := 149) rfl), ts_7 _ (List.mem_of_getElem? (i := 179) rfl), ts_7 _ (List.mem_of_getElem? (i := 180) rfl)⟩
def lw_privs_5 : List (MethodName × Nat) := [(⟨"OneWallModel", "areYards", "(I)Z"⟩, 49), (⟨"OneWallModel", "pacing", "(III)I"⟩, 49), (⟨"OneWallModel", "isHoleIn", "(I)Z"⟩, 49), (⟨"OneWallModel", "asksNews", "()V"⟩, 49), (⟨"OneWallModel", "beginsFrost", "()V"⟩, 49), (⟨"OneWallModel", "freezes", "()V"⟩, 49), (⟨"OneWallModel", "clears", "()Z"⟩, 49), (⟨"OneWallModel", "shortsIs", "(I)I"⟩, 49), (⟨"OneWallModel", "firstFalse", "(I)I"⟩, 49), (⟨"OneWallModel", "itemAt", "(II)J"⟩, 49), (⟨"OneWallModel", "isBody", "(I)Z"⟩, 49), (⟨"OneWallModel", "standsAs", "(II)I"⟩, 49), (⟨"OneWallModel", "begins", "(I)V"⟩, 49), (⟨"OneWallModel", "bearsAs", "(II)I"⟩, 49), (⟨"OneWallModel", "knocksAs", "(II)I"⟩, 49), (⟨"OneWallModel", "tellsAs", "(II)I"⟩, 49)]
theorem lw_r5 : ∀ q ∈ lw_privs_5, lw_okq q := List.forall_mem_cons.mpr ⟨lw_p64, List.forall_mem_cons.mpr ⟨lw_p65, List.forall_mem_cons.mpr ⟨lw_p66, List.forall_mem_cons.mpr ⟨lw_p67, List.forall_mem_cons.mpr ⟨lw_p68, List.forall_mem_cons.mpr ⟨lw_p69, List.forall_mem_cons.mpr ⟨lw_p70, List.forall_mem_cons.mpr ⟨lw_p71, List.forall_mem_cons.mpr ⟨lw_p72, List.forall_mem_cons.mpr ⟨lw_p73, List.forall_mem_cons.mpr ⟨lw_p74, List.forall_mem_cons.mpr ⟨lw_p75, List.forall_mem_cons.mpr ⟨lw_p76, List.forall_mem_cons.mpr ⟨lw_p77, List.forall_mem_cons.mpr ⟨lw_p78, List.forall_mem_cons.mpr ⟨lw_p79, fun _ h => absurd h List.not_mem_nil⟩⟩⟩⟩⟩⟩⟩⟩⟩⟩⟩⟩⟩⟩⟩⟩
theorem lw_p80 : lw_okq (⟨"OneWallModel", "refusal", "(II)I"⟩, 49) := ⟨⟨by decide +kernel, by decide +kernel⟩, ts_5 _ (List.mem_of_getElem? (i := 149) rfl), ts_7 _ (List.mem_of_getElem? (i := 199) rfl), ts_7 _ (List.mem_of_getElem? (i := 200) rfl)⟩
theorem lw_p81 : lw_okq (⟨"OneWallModel", "kindOf", "(I)I"⟩, 49) := ⟨⟨by decide +kernel, by decide +kernel⟩, ts_5 _ (List.mem_of_getElem? (i := 149) rfl), ts_7 _ (List.mem_of_getElem? (i := 219) rfl), ts_7 _ (List.mem_of_getElem? (i := 220) rfl)⟩
def lw_privs_6 : List (MethodName × Nat) := [(⟨"OneWallModel", "refusal", "(II)I"⟩, 49), (⟨"OneWallModel", "kindOf", "(I)I"⟩, 49)]
theorem lw_r6 : ∀ q ∈ lw_privs_6, lw_okq q := List.forall_mem_cons.mpr ⟨lw_p80, List.forall_mem_cons.mpr ⟨lw_p81, fun _ h => absurd h List.not_mem_nil⟩⟩
def lw_privs : List (MethodName × Nat) := lw_privs_1 ++ (lw_privs_2 ++ (lw_privs_3 ++ (lw_privs_4 ++ (lw_privs_5 ++ (lw_privs_6)))))
def lw_tbl : List Cond := k2_sels lw_privs ++ tables_1
theorem lw_privs_ok : ∀ q ∈ lw_privs, lw_okq q := by
  show ∀ q ∈ lw_privs_1 ++ (lw_privs_2 ++ (lw_privs_3 ++ (lw_privs_4 ++ (lw_privs_5 ++ (lw_privs_6))))), lw_okq q
  exact List.forall_mem_append.mpr ⟨lw_r1, List.forall_mem_append.mpr ⟨lw_r2, List.forall_mem_append.mpr ⟨lw_r3, List.forall_mem_append.mpr ⟨lw_r4, List.forall_mem_append.mpr ⟨lw_r5, lw_r6⟩⟩⟩⟩⟩
-- ===== end of PART A; then your names; then what follows =====
/-! THE CLAIM OUT OF ONE WALK OF THE LAW'S BODY. Your part is whole_start (and what it stands on); all else here is the same for every law, but numbers. -/
def R_law : String := "OneWallLaw"
def lw_P (b : Addr) (xs : List Int32) (args : Array Value) (s : State) : Prop := args = #[.ref b] ∧ s.IntsAt b xs ∧ xs.length ≤ 3072 ∧ (Jvm.Cond.and given_1 narrow_1).before args s = true
def lw_Q (_ : Array Value) (s : State) (o : Outcome) (t : State) : Prop := o = .returned (some (.int 1)) ∧ Framed s o t [] 600000 7302250
def lw_Z (below : List Frame) (a : Array Value) (s : State) : State → Prop := fun t => ∃ o, t.status = .running ∧ Ended t below o ∧ lw_Q a s o t
/-- the law's own end, with 1 on the stack, nothing written that was there before, its room as the claim has it -/
theorem lw_ret {p : Program} {l : Launch} {e : Env} {s : State} {m : MethodId} {below : List Frame} {meth : Method} {c : Code} {b : Nat} (hx : p.tables.exec = Jvm.exec) (hb : c.code = code) (hr : meth.sig.returnType = ret) (hlocks : meth.locks = false) {pc : Nat} {H : Heap} {ls : Array Slot} (hdg : decode code pc = .ok (.ireturn, 1)) : W p l e room_1 s m #[Value.ref b] below meth c H [] 600000 7302250 (lw_Z below #[Value.ref b] s) (F0 m pc ls [.int 1]) := by
  intro T hT X
  obtain ⟨fs, hret, hrun, hended, hW, hframe⟩ := X.leave (v := some (.int 1)) (hlocks := hlocks) (fun h => by rw [hr] at h; cases h)
  have hmeth' : T.vm.method? m = some meth := X.method'
  refine ⟨T.setFrames fs, ?_, .returned (some (.int 1)), hrun, hended, rfl, ⟨_, rfl⟩, hW, hframe⟩
  jvm_step X.here [X.here.top, hx, hb, hdg, hmeth', hr, ret, narrow_b1]
  (try refine ⟨rfl, ?_⟩); (try refine ⟨rfl, ?_⟩)
  first | (intro acts; rw [hret _ acts rfl rfl rfl]) | rw [hret _ _ rfl rfl rfl]
  exact Steps.refl _
/-- what holds at the law's entry: the machine, the code, the tables' words (any of lw_tbl by 'hts w (by decide +kernel)'), the script of L ints xs at the cell b, what the Statement gives of the start (any of its parts by flat_of_before) -/
def lw_At (p : Program) (s : State) (m : MethodId) (meth : Method) (c : Code) (b L : Nat) (xs : Nat → Int32) : Prop :=
  p.tables.exec = Jvm.exec ∧ c.code = code ∧ meth.sig.returnType = ret ∧ c.maxLocals = 4 ∧ s.vm.findClass R_law = some m.cls ∧ (∀ w ∈ lw_tbl, w.before #[Value.ref b] s = true) ∧ va_X b L xs s s.heap ∧ b < s.heap.size ∧ meth.locks = false ∧ (Jvm.Cond.and given_1 narrow_1).before #[Value.ref b] s = true
/-! ===== END ===== -/
theorem vr_outer (c : ClassId) (N h0 : Nat) : ∀ i : Nat, Jvm.Free.Multi.outerC c N h0 i = arrV c N (fun j => va_rf (if j < i then some (h0 + 1 + j) else none))
  | 0 => by
    show ({ cls := c, slots := Array.replicate N .null, vm := .none } : Cell) = _
    rw [arrV_new]
    refine congrArg (arrV c N) (funext fun j => ?_)
    simp [va_rf]
  | i + 1 => by
    show (Jvm.Free.Multi.outerC c N h0 i).setSlot i (.ref (h0 + 1 + i)) = _
    rw [vr_outer c N h0 i, arrV_store]
    refine congrArg (arrV c N) (funext fun j => ?_)
    by_cases e : j = i
    · subst e
      simp [updV, va_rf]
    · by_cases h : j < i
      · simp [updV, e, h, Nat.lt_succ_of_lt h]
      · simp [updV, e, h, show ¬ j < i + 1 by omega]
/-! ===== BEGIN printed: names, fields, word lists, decode rows ===== -/
def RX0 : String := "OneWall$Bodies"
def TX0 : u_T := fun k => match k with
  | 0 => ("OneWall$Bodies", "kinds", "[I", true)
  | 1 => ("OneWall$Bodies", "trace", "[I", true)
  | 2 => ("OneWall$Bodies", "size", "I", false)
  | _ => ("OneWall$Bodies", "ran", "I", false)
def tyX0 : Nat → FieldType := fun k => match k with
  | 0 => .array .int
  | 1 => .array .int
  | 2 => .int
  | _ => .int
theorem nmX0 : ∀ a, a < 4 → ∀ b, b < 4 → a ≠ b → (TX0 a).2.1 ≠ (TX0 b).2.1 := by decide +kernel
theorem tyX0_ok : ∀ k, k < 4 → parseFieldDescriptor (TX0 k).2.2.1 = some (tyX0 k) := by decide +kernel
abbrev cX0_init : ByteArray := prog_2_method_1_code
def yX0_init : MethodName := ⟨RX0, "<init>", "()V"⟩
abbrev cX0_hasKind : ByteArray := prog_2_method_2_code
def yX0_hasKind : MethodName := ⟨RX0, "hasKind", "(I)Z"⟩
abbrev cX0_has : ByteArray := prog_2_method_3_code
def yX0_has : MethodName := ⟨RX0, "has", "(I)Z"⟩
abbrev cX0_kindOf : ByteArray := prog_2_method_4_code
def yX0_kindOf : MethodName := ⟨RX0, "kindOf", "(I)I"⟩
abbrev cX0_kindAbove : ByteArray := prog_2_method_5_code
def yX0_kindAbove : MethodName := ⟨RX0, "kindAbove", "(I)I"⟩
abbrev cX0_isUnder : ByteArray := prog_2_method_6_code
def yX0_isUnder : MethodName := ⟨RX0, "isUnder", "(II)Z"⟩
abbrev cX0_add : ByteArray := prog_2_method_7_code
def yX0_add : MethodName := ⟨RX0, "add", "(I)I"⟩
abbrev cX0_tracedNow : ByteArray := prog_2_method_8_code
def yX0_tracedNow : MethodName := ⟨RX0, "tracedNow", "()I"⟩
abbrev cX0_traced : ByteArray := prog_2_method_9_code
def yX0_traced : MethodName := ⟨RX0, "traced", "(I)I"⟩
abbrev cX0_perform : ByteArray := prog_2_method_10_code
def yX0_perform : MethodName := ⟨RX0, "perform", "(III)I"⟩
abbrev cX0_run : ByteArray := prog_2_method_11_code
def yX0_run : MethodName := ⟨RX0, "run", "(IIIII)I"⟩
abbrev cX0_runBody : ByteArray := prog_2_method_12_code
def yX0_runBody : MethodName := ⟨RX0, "runBody", "(IIIII)I"⟩
abbrev cX0_note : ByteArray := prog_2_method_13_code
def yX0_note : MethodName := ⟨RX0, "note", "(I)V"⟩
def RX1 : String := "OneWall$Changes"
def TX1 : u_T := fun k => match k with
  | 0 => ("OneWall$Changes", "whats", "[I", true)
  | 1 => ("OneWall$Changes", "numbers", "[I", true)
  | 2 => ("OneWall$Changes", "befores", "[I", true)
  | 3 => ("OneWall$Changes", "afters", "[I", true)
  | 4 => ("OneWall$Changes", "done", "I", false)
  | _ => ("OneWall$Changes", "kept", "I", false)
def tyX1 : Nat → FieldType := fun k => match k with
  | 0 => .array .int
  | 1 => .array .int
  | 2 => .array .int
  | 3 => .array .int
  | 4 => .int
  | _ => .int
theorem nmX1 : ∀ a, a < 6 → ∀ b, b < 6 → a ≠ b → (TX1 a).2.1 ≠ (TX1 b).2.1 := by decide +kernel
theorem tyX1_ok : ∀ k, k < 6 → parseFieldDescriptor (TX1 k).2.2.1 = some (tyX1 k) := by decide +kernel
abbrev cX1_init : ByteArray := prog_3_method_1_code
def yX1_init : MethodName := ⟨RX1, "<init>", "()V"⟩
abbrev cX1_note : ByteArray := prog_3_method_2_code
def yX1_note : MethodName := ⟨RX1, "note", "(IIII)V"⟩
abbrev cX1_forgetFirst : ByteArray := prog_3_method_3_code
def yX1_forgetFirst : MethodName := ⟨RX1, "forgetFirst", "()V"⟩
abbrev cX1_takeBack : ByteArray := prog_3_method_4_code
def yX1_takeBack : MethodName := ⟨RX1, "takeBack", "(LOneWall$Wall;)Z"⟩
abbrev cX1_doAgain : ByteArray := prog_3_method_5_code
def yX1_doAgain : MethodName := ⟨RX1, "doAgain", "(LOneWall$Wall;)Z"⟩
def RX2 : String := "OneWall$Debts"
def TX2 : u_T := fun k => match k with
  | 0 => ("OneWall$Debts", "lent", "[I", true)
  | _ => ("OneWall$Debts", "cleared", "[I", true)
def tyX2 : Nat → FieldType := fun k => match k with
  | 0 => .array .int
  | _ => .array .int
theorem nmX2 : ∀ a, a < 2 → ∀ b, b < 2 → a ≠ b → (TX2 a).2.1 ≠ (TX2 b).2.1 := by decide +kernel
theorem tyX2_ok : ∀ k, k < 2 → parseFieldDescriptor (TX2 k).2.2.1 = some (tyX2 k) := by decide +kernel
abbrev cX2_init : ByteArray := prog_4_method_1_code
def yX2_init : MethodName := ⟨RX2, "<init>", "()V"⟩
abbrev cX2_hasOwner : ByteArray := prog_4_method_2_code
def yX2_hasOwner : MethodName := ⟨RX2, "hasOwner", "(I)Z"⟩
abbrev cX2_become : ByteArray := prog_4_method_3_code
def yX2_become : MethodName := ⟨RX2, "become", "(LOneWall$Debts;)V"⟩
abbrev cX2_lent : ByteArray := prog_4_method_4_code
def yX2_lent : MethodName := ⟨RX2, "lent", "(II)I"⟩
abbrev cX2_set : ByteArray := prog_4_method_5_code
def yX2_set : MethodName := ⟨RX2, "set", "(III)V"⟩
abbrev cX2_owed : ByteArray := prog_4_method_6_code
def yX2_owed : MethodName := ⟨RX2, "owed", "(I)I"⟩
abbrev cX2_lentWhenCleared : ByteArray := prog_4_method_7_code
def yX2_lentWhenCleared : MethodName := ⟨RX2, "lentWhenCleared", "(II)I"⟩
abbrev cX2_clearFirstRing : ByteArray := prog_4_method_8_code
def yX2_clearFirstRing : MethodName := ⟨RX2, "clearFirstRing", "()Z"⟩
abbrev cX2_clearRing : ByteArray := prog_4_method_9_code
def yX2_clearRing : MethodName := ⟨RX2, "clearRing", "(III)Z"⟩
def RX3 : String := "OneWall$Deeds"
def TX3 : u_T := fun k => match k with
  | 0 => ("OneWall$Deeds", "place", "I", false)
  | 1 => ("OneWall$Deeds", "minutes", "I", false)
  | 2 => ("OneWall$Deeds", "goings", "I", false)
  | _ => ("OneWall$Deeds", "dug", "I", false)
def tyX3 : Nat → FieldType := fun k => match k with
  | 0 => .int
  | 1 => .int
  | 2 => .int
  | _ => .int
theorem nmX3 : ∀ a, a < 4 → ∀ b, b < 4 → a ≠ b → (TX3 a).2.1 ≠ (TX3 b).2.1 := by decide +kernel
theorem tyX3_ok : ∀ k, k < 4 → parseFieldDescriptor (TX3 k).2.2.1 = some (tyX3 k) := by decide +kernel
abbrev cX3_init : ByteArray := prog_5_method_1_code
def yX3_init : MethodName := ⟨RX3, "<init>", "()V"⟩
abbrev cX3_become : ByteArray := prog_5_method_2_code
def yX3_become : MethodName := ⟨RX3, "become", "(LOneWall$Deeds;)V"⟩
def RX4 : String := "OneWall$Frost"
def TX4 : u_T := fun k => match k with
  | 0 => ("OneWall$Frost", "warm", "[I", false)
  | 1 => ("OneWall$Frost", "next", "[I", false)
  | _ => ("OneWall$Frost", "yards", "I", false)
def tyX4 : Nat → FieldType := fun k => match k with
  | 0 => .array .int
  | 1 => .array .int
  | _ => .int
theorem nmX4 : ∀ a, a < 3 → ∀ b, b < 3 → a ≠ b → (TX4 a).2.1 ≠ (TX4 b).2.1 := by decide +kernel
theorem tyX4_ok : ∀ k, k < 3 → parseFieldDescriptor (TX4 k).2.2.1 = some (tyX4 k) := by decide +kernel
abbrev cX4_init : ByteArray := prog_6_method_1_code
def yX4_init : MethodName := ⟨RX4, "<init>", "()V"⟩
abbrev cX4_begin : ByteArray := prog_6_method_2_code
def yX4_begin : MethodName := ⟨RX4, "begin", "(LOneWall$Wall;)V"⟩
abbrev cX4_pass : ByteArray := prog_6_method_3_code
def yX4_pass : MethodName := ⟨RX4, "pass", "(LOneWall$Wall;)V"⟩
abbrev cX4_warmth : ByteArray := prog_6_method_4_code
def yX4_warmth : MethodName := ⟨RX4, "warmth", "(I)I"⟩
abbrev cX4_firstAtZero : ByteArray := prog_6_method_5_code
def yX4_firstAtZero : MethodName := ⟨RX4, "firstAtZero", "()I"⟩
def RX5 : String := "OneWall$Law"
def TX5 : u_T := fun k => match k with
  | 0 => ("OneWall$Law", "tape", "[I", true)
  | 1 => ("OneWall$Law", "signs", "[I", false)
  | 2 => ("OneWall$Law", "draft", "[I", false)
  | 3 => ("OneWall$Law", "named", "[I", true)
  | 4 => ("OneWall$Law", "stack", "[I", true)
  | 5 => ("OneWall$Law", "signsNow", "I", false)
  | 6 => ("OneWall$Law", "drafted", "I", false)
  | 7 => ("OneWall$Law", "height", "I", false)
  | 8 => ("OneWall$Law", "at", "I", false)
  | 9 => ("OneWall$Law", "fault", "I", false)
  | _ => ("OneWall$Law", "fed", "I", false)
def tyX5 : Nat → FieldType := fun k => match k with
  | 0 => .array .int
  | 1 => .array .int
  | 2 => .array .int
  | 3 => .array .int
  | 4 => .array .int
  | 5 => .int
  | 6 => .int
  | 7 => .int
  | 8 => .int
  | 9 => .int
  | _ => .int
theorem nmX5 : ∀ a, a < 11 → ∀ b, b < 11 → a ≠ b → (TX5 a).2.1 ≠ (TX5 b).2.1 := by decide +kernel
theorem tyX5_ok : ∀ k, k < 11 → parseFieldDescriptor (TX5 k).2.2.1 = some (tyX5 k) := by decide +kernel
abbrev cX5_init : ByteArray := prog_7_method_1_code
def yX5_init : MethodName := ⟨RX5, "<init>", "()V"⟩
abbrev cX5_takeByte : ByteArray := prog_7_method_2_code
def yX5_takeByte : MethodName := ⟨RX5, "takeByte", "(I)Z"⟩
abbrev cX5_readTape : ByteArray := prog_7_method_3_code
def yX5_readTape : MethodName := ⟨RX5, "readTape", "()I"⟩
abbrev cX5_takeDraft : ByteArray := prog_7_method_4_code
def yX5_takeDraft : MethodName := ⟨RX5, "takeDraft", "()V"⟩
abbrev cX5_readLine : ByteArray := prog_7_method_5_code
def yX5_readLine : MethodName := ⟨RX5, "readLine", "()V"⟩
abbrev cX5_signsOfLevel : ByteArray := prog_7_method_6_code
def yX5_signsOfLevel : MethodName := ⟨RX5, "signsOfLevel", "(I)Ljava/lang/String;"⟩
abbrev cX5_readLevel : ByteArray := prog_7_method_7_code
def yX5_readLevel : MethodName := ⟨RX5, "readLevel", "(II)V"⟩
abbrev cX5_skipBelow : ByteArray := prog_7_method_8_code
def yX5_skipBelow : MethodName := ⟨RX5, "skipBelow", "(III)I"⟩
abbrev cX5_readOperand : ByteArray := prog_7_method_9_code
def yX5_readOperand : MethodName := ⟨RX5, "readOperand", "(I)V"⟩
abbrev cX5_isDigitAhead : ByteArray := prog_7_method_10_code
def yX5_isDigitAhead : MethodName := ⟨RX5, "isDigitAhead", "()Z"⟩
abbrev cX5_readNumber : ByteArray := prog_7_method_11_code
def yX5_readNumber : MethodName := ⟨RX5, "readNumber", "()V"⟩
abbrev cX5_skip : ByteArray := prog_7_method_12_code
def yX5_skip : MethodName := ⟨RX5, "skip", "(Ljava/lang/String;)I"⟩
abbrev cX5_fail : ByteArray := prog_7_method_13_code
def yX5_fail : MethodName := ⟨RX5, "fail", "()V"⟩
abbrev cX5_write : ByteArray := prog_7_method_14_code
def yX5_write : MethodName := ⟨RX5, "write", "(I)V"⟩
abbrev cX5_minutes : ByteArray := prog_7_method_15_code
def yX5_minutes : MethodName := ⟨RX5, "minutes", "(LOneWall$Wall;III)I"⟩
abbrev cX5_workOut : ByteArray := prog_7_method_16_code
def yX5_workOut : MethodName := ⟨RX5, "workOut", "()I"⟩
abbrev cX5_workOutSign : ByteArray := prog_7_method_17_code
def yX5_workOutSign : MethodName := ⟨RX5, "workOutSign", "(I)V"⟩
abbrev cX5_joined : ByteArray := prog_7_method_18_code
def yX5_joined : MethodName := ⟨RX5, "joined", "(III)I"⟩
abbrev cX5_truth : ByteArray := prog_7_method_19_code
def yX5_truth : MethodName := ⟨RX5, "truth", "(Z)I"⟩
abbrev cX5_push : ByteArray := prog_7_method_20_code
def yX5_push : MethodName := ⟨RX5, "push", "(I)V"⟩
abbrev cX5_pop : ByteArray := prog_7_method_21_code
def yX5_pop : MethodName := ⟨RX5, "pop", "()I"⟩
def RX6 : String := "OneWall$News"
abbrev cX6_hearing : ByteArray := prog_8_method_2_code
def yX6_hearing : MethodName := ⟨RX6, "hearing", "(LOneWall$Wall;II)I"⟩
abbrev cX6_howManyHear : ByteArray := prog_8_method_3_code
def yX6_howManyHear : MethodName := ⟨RX6, "howManyHear", "(LOneWall$Wall;II)I"⟩
abbrev cX6_lastToHear : ByteArray := prog_8_method_4_code
def yX6_lastToHear : MethodName := ⟨RX6, "lastToHear", "(LOneWall$Wall;I)I"⟩
def RX7 : String := "OneWall$Seen"
abbrev cX7_firstUnlikely : ByteArray := prog_9_method_2_code
def yX7_firstUnlikely : MethodName := ⟨RX7, "firstUnlikely", "(LOneWall$Shelves;ILOneWall$Ways;)I"⟩
abbrev cX7_isAsSaid : ByteArray := prog_9_method_3_code
def yX7_isAsSaid : MethodName := ⟨RX7, "isAsSaid", "(LOneWall$Shelves;IILOneWall$Ways;)Z"⟩
abbrev cX7_isInTime : ByteArray := prog_9_method_4_code
def yX7_isInTime : MethodName := ⟨RX7, "isInTime", "(LOneWall$Shelves;IILOneWall$Ways;)Z"⟩
abbrev cX7_lastMinute : ByteArray := prog_9_method_5_code
def yX7_lastMinute : MethodName := ⟨RX7, "lastMinute", "(LOneWall$Shelves;I)I"⟩
abbrev cX7_lastPlace : ByteArray := prog_9_method_6_code
def yX7_lastPlace : MethodName := ⟨RX7, "lastPlace", "(LOneWall$Shelves;I)I"⟩
def RX8 : String := "OneWall$Shelves"
def TX8 : u_T := fun k => match k with
  | 0 => ("OneWall$Shelves", "holds", "[I", true)
  | 1 => ("OneWall$Shelves", "bricks", "[I", true)
  | 2 => ("OneWall$Shelves", "sizes", "[I", true)
  | _ => ("OneWall$Shelves", "rows", "[[J", true)
def tyX8 : Nat → FieldType := fun k => match k with
  | 0 => .array .int
  | 1 => .array .int
  | 2 => .array .int
  | _ => .array (.array .long)
theorem nmX8 : ∀ a, a < 4 → ∀ b, b < 4 → a ≠ b → (TX8 a).2.1 ≠ (TX8 b).2.1 := by decide +kernel
theorem tyX8_ok : ∀ k, k < 4 → parseFieldDescriptor (TX8 k).2.2.1 = some (tyX8 k) := by decide +kernel
abbrev cX8_init : ByteArray := prog_10_method_1_code
def yX8_init : MethodName := ⟨RX8, "<init>", "()V"⟩
abbrev cX8_has : ByteArray := prog_10_method_2_code
def yX8_has : MethodName := ⟨RX8, "has", "(I)Z"⟩
abbrev cX8_isEmpty : ByteArray := prog_10_method_3_code
def yX8_isEmpty : MethodName := ⟨RX8, "isEmpty", "(I)Z"⟩
abbrev cX8_holdsBrick : ByteArray := prog_10_method_4_code
def yX8_holdsBrick : MethodName := ⟨RX8, "holdsBrick", "(I)Z"⟩
abbrev cX8_holdsRow : ByteArray := prog_10_method_5_code
def yX8_holdsRow : MethodName := ⟨RX8, "holdsRow", "(II)Z"⟩
abbrev cX8_holdRowsAlike : ByteArray := prog_10_method_6_code
def yX8_holdRowsAlike : MethodName := ⟨RX8, "holdRowsAlike", "(II)Z"⟩
abbrev cX8_sortOf : ByteArray := prog_10_method_7_code
def yX8_sortOf : MethodName := ⟨RX8, "sortOf", "(I)I"⟩
abbrev cX8_brickOn : ByteArray := prog_10_method_8_code
def yX8_brickOn : MethodName := ⟨RX8, "brickOn", "(I)I"⟩
abbrev cX8_sizeOf : ByteArray := prog_10_method_9_code
def yX8_sizeOf : MethodName := ⟨RX8, "sizeOf", "(I)I"⟩
abbrev cX8_hasElements : ByteArray := prog_10_method_10_code
def yX8_hasElements : MethodName := ⟨RX8, "hasElements", "(III)Z"⟩
abbrev cX8_refusalOfRow : ByteArray := prog_10_method_11_code
def yX8_refusalOfRow : MethodName := ⟨RX8, "refusalOfRow", "(II)I"⟩
abbrev cX8_refusalOfElement : ByteArray := prog_10_method_12_code
def yX8_refusalOfElement : MethodName := ⟨RX8, "refusalOfElement", "(II)I"⟩
abbrev cX8_clear : ByteArray := prog_10_method_13_code
def yX8_clear : MethodName := ⟨RX8, "clear", "(I)V"⟩
abbrev cX8_holdBrick : ByteArray := prog_10_method_14_code
def yX8_holdBrick : MethodName := ⟨RX8, "holdBrick", "(II)V"⟩
abbrev cX8_holdRow : ByteArray := prog_10_method_15_code
def yX8_holdRow : MethodName := ⟨RX8, "holdRow", "(III)V"⟩
abbrev cX8_get : ByteArray := prog_10_method_16_code
def yX8_get : MethodName := ⟨RX8, "get", "(II)J"⟩
abbrev cX8_set : ByteArray := prog_10_method_17_code
def yX8_set : MethodName := ⟨RX8, "set", "(IIJ)V"⟩
abbrev cX8_lowestBits : ByteArray := prog_10_method_18_code
def yX8_lowestBits : MethodName := ⟨RX8, "lowestBits", "(IJ)J"⟩
abbrev cX8_copy : ByteArray := prog_10_method_19_code
def yX8_copy : MethodName := ⟨RX8, "copy", "(IIIII)V"⟩
def RX9 : String := "OneWall$Wall"
def TX9 : u_T := fun k => match k with
  | 0 => ("OneWall$Wall", "numbers", "[[I", true)
  | 1 => ("OneWall$Wall", "holes", "I", false)
  | _ => ("OneWall$Wall", "lanes", "I", false)
def tyX9 : Nat → FieldType := fun k => match k with
  | 0 => .array (.array .int)
  | 1 => .int
  | _ => .int
theorem nmX9 : ∀ a, a < 3 → ∀ b, b < 3 → a ≠ b → (TX9 a).2.1 ≠ (TX9 b).2.1 := by decide +kernel
theorem tyX9_ok : ∀ k, k < 3 → parseFieldDescriptor (TX9 k).2.2.1 = some (tyX9 k) := by decide +kernel
abbrev cX9_init : ByteArray := prog_11_method_1_code
def yX9_init : MethodName := ⟨RX9, "<init>", "()V"⟩
abbrev cX9_howMany : ByteArray := prog_11_method_2_code
def yX9_howMany : MethodName := ⟨RX9, "howMany", "(I)I"⟩
abbrev cX9_has : ByteArray := prog_11_method_3_code
def yX9_has : MethodName := ⟨RX9, "has", "(II)Z"⟩
abbrev cX9_allows : ByteArray := prog_11_method_4_code
def yX9_allows : MethodName := ⟨RX9, "allows", "(II)Z"⟩
abbrev cX9_value : ByteArray := prog_11_method_5_code
def yX9_value : MethodName := ⟨RX9, "value", "(II)I"⟩
abbrev cX9_set : ByteArray := prog_11_method_6_code
def yX9_set : MethodName := ⟨RX9, "set", "(III)V"⟩
abbrev cX9_addHole : ByteArray := prog_11_method_7_code
def yX9_addHole : MethodName := ⟨RX9, "addHole", "(I)I"⟩
abbrev cX9_addLane : ByteArray := prog_11_method_8_code
def yX9_addLane : MethodName := ⟨RX9, "addLane", "(II)I"⟩
abbrev cX9_yardsNow : ByteArray := prog_11_method_9_code
def yX9_yardsNow : MethodName := ⟨RX9, "yardsNow", "()I"⟩
abbrev cX9_placesNow : ByteArray := prog_11_method_10_code
def yX9_placesNow : MethodName := ⟨RX9, "placesNow", "()I"⟩
abbrev cX9_hasYard : ByteArray := prog_11_method_11_code
def yX9_hasYard : MethodName := ⟨RX9, "hasYard", "(I)Z"⟩
abbrev cX9_hasPlace : ByteArray := prog_11_method_12_code
def yX9_hasPlace : MethodName := ⟨RX9, "hasPlace", "(I)Z"⟩
abbrev cX9_isHoleOpen : ByteArray := prog_11_method_13_code
def yX9_isHoleOpen : MethodName := ⟨RX9, "isHoleOpen", "(I)Z"⟩
abbrev cX9_isLaneOpen : ByteArray := prog_11_method_14_code
def yX9_isLaneOpen : MethodName := ⟨RX9, "isLaneOpen", "(I)Z"⟩
abbrev cX9_hasOpenHole : ByteArray := prog_11_method_15_code
def yX9_hasOpenHole : MethodName := ⟨RX9, "hasOpenHole", "(I)Z"⟩
abbrev cX9_isWarmest : ByteArray := prog_11_method_16_code
def yX9_isWarmest : MethodName := ⟨RX9, "isWarmest", "(I)Z"⟩
def RX10 : String := "OneWall$Ways"
def TX10 : u_T := fun k => match k with
  | 0 => ("OneWall$Ways", "froms", "[I", true)
  | 1 => ("OneWall$Ways", "tos", "[I", true)
  | 2 => ("OneWall$Ways", "costs", "[I", true)
  | 3 => ("OneWall$Ways", "crossings", "[I", true)
  | 4 => ("OneWall$Ways", "minutes", "[I", true)
  | 5 => ("OneWall$Ways", "all", "[I", true)
  | 6 => ("OneWall$Ways", "ahead", "[I", true)
  | 7 => ("OneWall$Ways", "walked", "[I", true)
  | 8 => ("OneWall$Ways", "steps", "I", false)
  | _ => ("OneWall$Ways", "places", "I", false)
def tyX10 : Nat → FieldType := fun k => match k with
  | 0 => .array .int
  | 1 => .array .int
  | 2 => .array .int
  | 3 => .array .int
  | 4 => .array .int
  | 5 => .array .int
  | 6 => .array .int
  | 7 => .array .int
  | 8 => .int
  | _ => .int
theorem nmX10 : ∀ a, a < 10 → ∀ b, b < 10 → a ≠ b → (TX10 a).2.1 ≠ (TX10 b).2.1 := by decide +kernel
theorem tyX10_ok : ∀ k, k < 10 → parseFieldDescriptor (TX10 k).2.2.1 = some (tyX10 k) := by decide +kernel
abbrev cX10_init : ByteArray := prog_12_method_1_code
def yX10_init : MethodName := ⟨RX10, "<init>", "()V"⟩
abbrev cX10_lay : ByteArray := prog_12_method_2_code
def yX10_lay : MethodName := ⟨RX10, "lay", "(LOneWall$Wall;LOneWall$Law;)V"⟩
abbrev cX10_layAlong : ByteArray := prog_12_method_3_code
def yX10_layAlong : MethodName := ⟨RX10, "layAlong", "(LOneWall$Wall;LOneWall$Law;)V"⟩
abbrev cX10_layRound : ByteArray := prog_12_method_4_code
def yX10_layRound : MethodName := ⟨RX10, "layRound", "(II)V"⟩
abbrev cX10_addBothWays : ByteArray := prog_12_method_5_code
def yX10_addBothWays : MethodName := ⟨RX10, "addBothWays", "(IIII)V"⟩
abbrev cX10_add : ByteArray := prog_12_method_6_code
def yX10_add : MethodName := ⟨RX10, "add", "(IIII)V"⟩
abbrev cX10_isThere : ByteArray := prog_12_method_7_code
def yX10_isThere : MethodName := ⟨RX10, "isThere", "(I)Z"⟩
abbrev cX10_minutes : ByteArray := prog_12_method_8_code
def yX10_minutes : MethodName := ⟨RX10, "minutes", "(I)I"⟩
abbrev cX10_startAt : ByteArray := prog_12_method_9_code
def yX10_startAt : MethodName := ⟨RX10, "startAt", "(I)V"⟩
abbrev cX10_spread : ByteArray := prog_12_method_10_code
def yX10_spread : MethodName := ⟨RX10, "spread", "(II)V"⟩
abbrev cX10_spreadBack : ByteArray := prog_12_method_11_code
def yX10_spreadBack : MethodName := ⟨RX10, "spreadBack", "(I)V"⟩
abbrev cX10_firstStep : ByteArray := prog_12_method_12_code
def yX10_firstStep : MethodName := ⟨RX10, "firstStep", "(I)I"⟩
abbrev cX10_farthest : ByteArray := prog_12_method_13_code
def yX10_farthest : MethodName := ⟨RX10, "farthest", "()I"⟩
abbrev cX10_countWithin : ByteArray := prog_12_method_14_code
def yX10_countWithin : MethodName := ⟨RX10, "countWithin", "(I)I"⟩
abbrev cX10_yardsWithin : ByteArray := prog_12_method_15_code
def yX10_yardsWithin : MethodName := ⟨RX10, "yardsWithin", "(II)I"⟩
abbrev cX10_spreadFromAll : ByteArray := prog_12_method_16_code
def yX10_spreadFromAll : MethodName := ⟨RX10, "spreadFromAll", "()V"⟩
abbrev cX10_widestOfAll : ByteArray := prog_12_method_17_code
def yX10_widestOfAll : MethodName := ⟨RX10, "widestOfAll", "()I"⟩
abbrev cX10_widestWithHole : ByteArray := prog_12_method_18_code
def yX10_widestWithHole : MethodName := ⟨RX10, "widestWithHole", "(II)I"⟩
abbrev cX10_withHole : ByteArray := prog_12_method_19_code
def yX10_withHole : MethodName := ⟨RX10, "withHole", "(III)I"⟩
abbrev cX10_walk : ByteArray := prog_12_method_20_code
def yX10_walk : MethodName := ⟨RX10, "walk", "(III)I"⟩
abbrev cX10_lookAhead : ByteArray := prog_12_method_21_code
def yX10_lookAhead : MethodName := ⟨RX10, "lookAhead", "(I)I"⟩
abbrev cX10_aheadAt : ByteArray := prog_12_method_22_code
def yX10_aheadAt : MethodName := ⟨RX10, "aheadAt", "(I)I"⟩
abbrev cX10_countWalked : ByteArray := prog_12_method_23_code
def yX10_countWalked : MethodName := ⟨RX10, "countWalked", "()I"⟩
def RX11 : String := "OneWall"
def TX11 : u_T := fun k => match k with
  | 0 => ("OneWall", "wall", "LOneWall$Wall;", true)
  | 1 => ("OneWall", "changes", "LOneWall$Changes;", true)
  | 2 => ("OneWall", "laws", "LOneWall$Law;", true)
  | 3 => ("OneWall", "ways", "LOneWall$Ways;", true)
  | 4 => ("OneWall", "nights", "LOneWall$Frost;", true)
  | 5 => ("OneWall", "debts", "LOneWall$Debts;", true)
  | 6 => ("OneWall", "debtsInImage", "LOneWall$Debts;", true)
  | 7 => ("OneWall", "deeds", "LOneWall$Deeds;", true)
  | 8 => ("OneWall", "deedsInImage", "LOneWall$Deeds;", true)
  | 9 => ("OneWall", "bodies", "LOneWall$Bodies;", true)
  | 10 => ("OneWall", "shelves", "LOneWall$Shelves;", true)
  | _ => ("OneWall", "imageKept", "Z", false)
def tyX11 : Nat → FieldType := fun k => match k with
  | 0 => .object "OneWall$Wall"
  | 1 => .object "OneWall$Changes"
  | 2 => .object "OneWall$Law"
  | 3 => .object "OneWall$Ways"
  | 4 => .object "OneWall$Frost"
  | 5 => .object "OneWall$Debts"
  | 6 => .object "OneWall$Debts"
  | 7 => .object "OneWall$Deeds"
  | 8 => .object "OneWall$Deeds"
  | 9 => .object "OneWall$Bodies"
  | 10 => .object "OneWall$Shelves"
  | _ => .boolean
theorem nmX11 : ∀ a, a < 12 → ∀ b, b < 12 → a ≠ b → (TX11 a).2.1 ≠ (TX11 b).2.1 := by decide +kernel
theorem tyX11_ok : ∀ k, k < 12 → parseFieldDescriptor (TX11 k).2.2.1 = some (tyX11 k) := by decide +kernel
abbrev cX11_init : ByteArray := prog_1_method_1_code
def yX11_init : MethodName := ⟨RX11, "<init>", "()V"⟩
abbrev cX11_hole : ByteArray := prog_1_method_2_code
def yX11_hole : MethodName := ⟨RX11, "hole", "(I)I"⟩
abbrev cX11_lane : ByteArray := prog_1_method_3_code
def yX11_lane : MethodName := ⟨RX11, "lane", "(I)I"⟩
abbrev cX11_mend : ByteArray := prog_1_method_4_code
def yX11_mend : MethodName := ⟨RX11, "mend", "(III)I"⟩
abbrev cX11_of : ByteArray := prog_1_method_5_code
def yX11_of : MethodName := ⟨RX11, "of", "(II)I"⟩
abbrev cX11_yards : ByteArray := prog_1_method_6_code
def yX11_yards : MethodName := ⟨RX11, "yards", "(III)I"⟩
abbrev cX11_feed : ByteArray := prog_1_method_7_code
def yX11_feed : MethodName := ⟨RX11, "feed", "(I)I"⟩
abbrev cX11_law : ByteArray := prog_1_method_8_code
def yX11_law : MethodName := ⟨RX11, "law", "()I"⟩
abbrev cX11_way : ByteArray := prog_1_method_9_code
def yX11_way : MethodName := ⟨RX11, "way", "(II)I"⟩
abbrev cX11_far : ByteArray := prog_1_method_10_code
def yX11_far : MethodName := ⟨RX11, "far", "(II)I"⟩
abbrev cX11_reach : ByteArray := prog_1_method_11_code
def yX11_reach : MethodName := ⟨RX11, "reach", "(II)I"⟩
abbrev cX11_widest : ByteArray := prog_1_method_12_code
def yX11_widest : MethodName := ⟨RX11, "widest", "()I"⟩
abbrev cX11_dig : ByteArray := prog_1_method_13_code
def yX11_dig : MethodName := ⟨RX11, "dig", "(I)I"⟩
abbrev cX11_spare : ByteArray := prog_1_method_14_code
def yX11_spare : MethodName := ⟨RX11, "spare", "(II)I"⟩
abbrev cX11_pace : ByteArray := prog_1_method_15_code
def yX11_pace : MethodName := ⟨RX11, "pace", "(III)I"⟩
abbrev cX11_meet : ByteArray := prog_1_method_16_code
def yX11_meet : MethodName := ⟨RX11, "meet", "(I)I"⟩
abbrev cX11_news : ByteArray := prog_1_method_17_code
def yX11_news : MethodName := ⟨RX11, "news", "(I)I"⟩
abbrev cX11_heard : ByteArray := prog_1_method_18_code
def yX11_heard : MethodName := ⟨RX11, "heard", "(II)I"⟩
abbrev cX11_whence : ByteArray := prog_1_method_19_code
def yX11_whence : MethodName := ⟨RX11, "whence", "(III)I"⟩
abbrev cX11_frost : ByteArray := prog_1_method_20_code
def yX11_frost : MethodName := ⟨RX11, "frost", "(II)I"⟩
abbrev cX11_frozen : ByteArray := prog_1_method_21_code
def yX11_frozen : MethodName := ⟨RX11, "frozen", "(I)I"⟩
abbrev cX11_tax : ByteArray := prog_1_method_22_code
def yX11_tax : MethodName := ⟨RX11, "tax", "(I)I"⟩
abbrev cX11_lend : ByteArray := prog_1_method_23_code
def yX11_lend : MethodName := ⟨RX11, "lend", "(II)I"⟩
abbrev cX11_bricks : ByteArray := prog_1_method_24_code
def yX11_bricks : MethodName := ⟨RX11, "bricks", "(II)I"⟩
abbrev cX11_oneMan : ByteArray := prog_1_method_25_code
def yX11_oneMan : MethodName := ⟨RX11, "oneMan", "(I)I"⟩
abbrev cX11_where : ByteArray := prog_1_method_26_code
def yX11_where : MethodName := ⟨RX11, "where", "(III)I"⟩
abbrev cX11_drawn : ByteArray := prog_1_method_27_code
def yX11_drawn : MethodName := ⟨RX11, "drawn", "(IIII)I"⟩
abbrev cX11_go : ByteArray := prog_1_method_28_code
def yX11_go : MethodName := ⟨RX11, "go", "(I)I"⟩
abbrev cX11_digs : ByteArray := prog_1_method_29_code
def yX11_digs : MethodName := ⟨RX11, "digs", "()I"⟩
abbrev cX11_turn : ByteArray := prog_1_method_30_code
def yX11_turn : MethodName := ⟨RX11, "turn", "(II)I"⟩
abbrev cX11_led : ByteArray := prog_1_method_31_code
def yX11_led : MethodName := ⟨RX11, "led", "(I)I"⟩
abbrev cX11_image : ByteArray := prog_1_method_32_code
def yX11_image : MethodName := ⟨RX11, "image", "()I"⟩
abbrev cX11_back : ByteArray := prog_1_method_33_code
def yX11_back : MethodName := ⟨RX11, "back", "()I"⟩
abbrev cX11_undo : ByteArray := prog_1_method_34_code
def yX11_undo : MethodName := ⟨RX11, "undo", "()I"⟩
abbrev cX11_redo : ByteArray := prog_1_method_35_code
def yX11_redo : MethodName := ⟨RX11, "redo", "()I"⟩
abbrev cX11_body : ByteArray := prog_1_method_36_code
def yX11_body : MethodName := ⟨RX11, "body", "(I)I"⟩
abbrev cX11_act : ByteArray := prog_1_method_37_code
def yX11_act : MethodName := ⟨RX11, "act", "(III)I"⟩
abbrev cX11_trace : ByteArray := prog_1_method_38_code
def yX11_trace : MethodName := ⟨RX11, "trace", "(I)I"⟩
abbrev cX11_keep : ByteArray := prog_1_method_39_code
def yX11_keep : MethodName := ⟨RX11, "keep", "(II)I"⟩
abbrev cX11_row : ByteArray := prog_1_method_40_code
def yX11_row : MethodName := ⟨RX11, "row", "(III)I"⟩
abbrev cX11_put : ByteArray := prog_1_method_41_code
def yX11_put : MethodName := ⟨RX11, "put", "(IIJ)I"⟩
abbrev cX11_element : ByteArray := prog_1_method_42_code
def yX11_element : MethodName := ⟨RX11, "element", "(II)J"⟩
abbrev cX11_shift : ByteArray := prog_1_method_43_code
def yX11_shift : MethodName := ⟨RX11, "shift", "(IIIII)I"⟩
abbrev cX11_taken : ByteArray := prog_1_method_44_code
def yX11_taken : MethodName := ⟨RX11, "taken", "(II)I"⟩
abbrev cX11_count : ByteArray := prog_1_method_45_code
def yX11_count : MethodName := ⟨RX11, "count", "(I)I"⟩
abbrev cX11_arePlaces : ByteArray := prog_1_method_46_code
def yX11_arePlaces : MethodName := ⟨RX11, "arePlaces", "(I)Z"⟩
abbrev cX11_areYards : ByteArray := prog_1_method_47_code
def yX11_areYards : MethodName := ⟨RX11, "areYards", "(I)Z"⟩
abbrev cX11_areOwners : ByteArray := prog_1_method_48_code
def yX11_areOwners : MethodName := ⟨RX11, "areOwners", "(I)Z"⟩
abbrev cX11_upwardAt : ByteArray := prog_1_method_49_code
def yX11_upwardAt : MethodName := ⟨RX11, "upwardAt", "(II)I"⟩
abbrev cX11_downwardAt : ByteArray := prog_1_method_50_code
def yX11_downwardAt : MethodName := ⟨RX11, "downwardAt", "(II)I"⟩
abbrev cX11_turningAt : ByteArray := prog_1_method_51_code
def yX11_turningAt : MethodName := ⟨RX11, "turningAt", "(I)I"⟩
abbrev cX11_change : ByteArray := prog_1_method_52_code
def yX11_change : MethodName := ⟨RX11, "change", "(III)V"⟩
abbrev cX11_takeYard : ByteArray := prog_1_method_53_code
def yX11_takeYard : MethodName := ⟨RX11, "takeYard", "(IJI)Z"⟩
def RX12 : String := "OneWallModel"
def TX12 : u_T := fun k => match k with
  | 0 => ("OneWallModel", "may", "[I", true)
  | 1 => ("OneWallModel", "changeAt", "[I", true)
  | 2 => ("OneWallModel", "changeWas", "[I", true)
  | 3 => ("OneWallModel", "changeIs", "[I", true)
  | 4 => ("OneWallModel", "keptMany", "I", false)
  | 5 => ("OneWallModel", "done", "I", false)
  | 6 => ("OneWallModel", "holes", "I", false)
  | 7 => ("OneWallModel", "holeIn", "[I", true)
  | 8 => ("OneWallModel", "lanes", "I", false)
  | 9 => ("OneWallModel", "laneA", "[I", true)
  | 10 => ("OneWallModel", "laneB", "[I", true)
  | 11 => ("OneWallModel", "tape", "[I", true)
  | 12 => ("OneWallModel", "tapeMany", "I", false)
  | 13 => ("OneWallModel", "text", "[I", true)
  | 14 => ("OneWallModel", "textMany", "I", false)
  | 15 => ("OneWallModel", "base", "I", false)
  | 16 => ("OneWallModel", "at", "I", false)
  | 17 => ("OneWallModel", "ends", "I", false)
  | 18 => ("OneWallModel", "fault", "I", false)
  | 19 => ("OneWallModel", "opened", "I", false)
  | 20 => ("OneWallModel", "names", "[I", true)
  | 21 => ("OneWallModel", "step", "[I", true)
  | 22 => ("OneWallModel", "alsoHole", "I", false)
  | 23 => ("OneWallModel", "shutHole", "I", false)
  | 24 => ("OneWallModel", "shutLane", "I", false)
  | 25 => ("OneWallModel", "minutes", "[I", true)
  | 26 => ("OneWallModel", "sure", "[Z", true)
  | 27 => ("OneWallModel", "warmth", "[I", true)
  | 28 => ("OneWallModel", "warmer", "[I", true)
  | 29 => ("OneWallModel", "lent", "[I", true)
  | 30 => ("OneWallModel", "left", "[I", true)
  | 31 => ("OneWallModel", "wasIn", "[Z", true)
  | 32 => ("OneWallModel", "stands", "I", false)
  | 33 => ("OneWallModel", "ledMinutes", "I", false)
  | 34 => ("OneWallModel", "ledGoings", "I", false)
  | 35 => ("OneWallModel", "ledDug", "I", false)
  | 36 => ("OneWallModel", "isKept", "Z", false)
  | 37 => ("OneWallModel", "imageLent", "[I", true)
  | 38 => ("OneWallModel", "image", "[I", true)
  | 39 => ("OneWallModel", "bodies", "I", false)
  | 40 => ("OneWallModel", "bodyKind", "[I", true)
  | 41 => ("OneWallModel", "trace", "[I", true)
  | 42 => ("OneWallModel", "ran", "I", false)
  | 43 => ("OneWallModel", "ownKind", "I", false)
  | 44 => ("OneWallModel", "ownNumber", "I", false)
  | 45 => ("OneWallModel", "shelf", "[I", true)
  | 46 => ("OneWallModel", "many", "[I", true)
  | 47 => ("OneWallModel", "items", "[J", true)
  | _ => ("OneWallModel", "carried", "[J", true)
def tyX12 : Nat → FieldType := fun k => match k with
  | 0 => .array .int
  | 1 => .array .int
  | 2 => .array .int
  | 3 => .array .int
  | 4 => .int
  | 5 => .int
  | 6 => .int
  | 7 => .array .int
  | 8 => .int
  | 9 => .array .int
  | 10 => .array .int
  | 11 => .array .int
  | 12 => .int
  | 13 => .array .int
  | 14 => .int
  | 15 => .int
  | 16 => .int
  | 17 => .int
  | 18 => .int
  | 19 => .int
  | 20 => .array .int
  | 21 => .array .int
  | 22 => .int
  | 23 => .int
  | 24 => .int
  | 25 => .array .int
  | 26 => .array .boolean
  | 27 => .array .int
  | 28 => .array .int
  | 29 => .array .int
  | 30 => .array .int
  | 31 => .array .boolean
  | 32 => .int
  | 33 => .int
  | 34 => .int
  | 35 => .int
  | 36 => .boolean
  | 37 => .array .int
  | 38 => .array .int
  | 39 => .int
  | 40 => .array .int
  | 41 => .array .int
  | 42 => .int
  | 43 => .int
  | 44 => .int
  | 45 => .array .int
  | 46 => .array .int
  | 47 => .array .long
  | _ => .array .long
theorem nmX12 : ∀ a, a < 49 → ∀ b, b < 49 → a ≠ b → (TX12 a).2.1 ≠ (TX12 b).2.1 := by decide +kernel
theorem tyX12_ok : ∀ k, k < 49 → parseFieldDescriptor (TX12 k).2.2.1 = some (tyX12 k) := by decide +kernel
abbrev cX12_within : ByteArray := prog_14_method_1_code
def yX12_within : MethodName := ⟨RX12, "within", "(JJJ)Z"⟩
abbrev cX12_init : ByteArray := prog_14_method_2_code
def yX12_init : MethodName := ⟨RX12, "<init>", "()V"⟩
abbrev cX12_becomes : ByteArray := prog_14_method_3_code
def yX12_becomes : MethodName := ⟨RX12, "becomes", "(II)I"⟩
abbrev cX12_undo : ByteArray := prog_14_method_4_code
def yX12_undo : MethodName := ⟨RX12, "undo", "()I"⟩
abbrev cX12_redo : ByteArray := prog_14_method_5_code
def yX12_redo : MethodName := ⟨RX12, "redo", "()I"⟩
abbrev cX12_yardMany : ByteArray := prog_14_method_6_code
def yX12_yardMany : MethodName := ⟨RX12, "yardMany", "()I"⟩
abbrev cX12_isYard : ByteArray := prog_14_method_7_code
def yX12_isYard : MethodName := ⟨RX12, "isYard", "(J)Z"⟩
abbrev cX12_isPlace : ByteArray := prog_14_method_8_code
def yX12_isPlace : MethodName := ⟨RX12, "isPlace", "(J)Z"⟩
abbrev cX12_thickOf : ByteArray := prog_14_method_9_code
def yX12_thickOf : MethodName := ⟨RX12, "thickOf", "(I)I"⟩
abbrev cX12_warmOf : ByteArray := prog_14_method_10_code
def yX12_warmOf : MethodName := ⟨RX12, "warmOf", "(I)I"⟩
abbrev cX12_ownerOf : ByteArray := prog_14_method_11_code
def yX12_ownerOf : MethodName := ⟨RX12, "ownerOf", "(I)I"⟩
abbrev cX12_addsHole : ByteArray := prog_14_method_12_code
def yX12_addsHole : MethodName := ⟨RX12, "addsHole", "(I)I"⟩
abbrev cX12_hole : ByteArray := prog_14_method_13_code
def yX12_hole : MethodName := ⟨RX12, "hole", "(I)I"⟩
abbrev cX12_lane : ByteArray := prog_14_method_14_code
def yX12_lane : MethodName := ⟨RX12, "lane", "(I)I"⟩
abbrev cX12_placeOf : ByteArray := prog_14_method_15_code
def yX12_placeOf : MethodName := ⟨RX12, "placeOf", "(II)I"⟩
abbrev cX12_mayBecome : ByteArray := prog_14_method_16_code
def yX12_mayBecome : MethodName := ⟨RX12, "mayBecome", "(IJ)Z"⟩
abbrev cX12_mend : ByteArray := prog_14_method_17_code
def yX12_mend : MethodName := ⟨RX12, "mend", "(III)I"⟩
abbrev cX12_of : ByteArray := prog_14_method_18_code
def yX12_of : MethodName := ⟨RX12, "of", "(II)I"⟩
abbrev cX12_yards : ByteArray := prog_14_method_19_code
def yX12_yards : MethodName := ⟨RX12, "yards", "(III)I"⟩
abbrev cX12_feed : ByteArray := prog_14_method_20_code
def yX12_feed : MethodName := ⟨RX12, "feed", "(I)I"⟩
abbrev cX12_byteAt : ByteArray := prog_14_method_21_code
def yX12_byteAt : MethodName := ⟨RX12, "byteAt", "()I"⟩
abbrev cX12_wrong : ByteArray := prog_14_method_22_code
def yX12_wrong : MethodName := ⟨RX12, "wrong", "()I"⟩
abbrev cX12_takes : ByteArray := prog_14_method_23_code
def yX12_takes : MethodName := ⟨RX12, "takes", "(I)Z"⟩
abbrev cX12_either : ByteArray := prog_14_method_24_code
def yX12_either : MethodName := ⟨RX12, "either", "()I"⟩
abbrev cX12_both : ByteArray := prog_14_method_25_code
def yX12_both : MethodName := ⟨RX12, "both", "()I"⟩
abbrev cX12_compared : ByteArray := prog_14_method_26_code
def yX12_compared : MethodName := ⟨RX12, "compared", "()I"⟩
abbrev cX12_sums : ByteArray := prog_14_method_27_code
def yX12_sums : MethodName := ⟨RX12, "sums", "()I"⟩
abbrev cX12_product : ByteArray := prog_14_method_28_code
def yX12_product : MethodName := ⟨RX12, "product", "()I"⟩
abbrev cX12_nameOf : ByteArray := prog_14_method_29_code
def yX12_nameOf : MethodName := ⟨RX12, "nameOf", "(I)I"⟩
abbrev cX12_one : ByteArray := prog_14_method_30_code
def yX12_one : MethodName := ⟨RX12, "one", "()I"⟩
abbrev cX12_workOut : ByteArray := prog_14_method_31_code
def yX12_workOut : MethodName := ⟨RX12, "workOut", "(II)I"⟩
abbrev cX12_law : ByteArray := prog_14_method_32_code
def yX12_law : MethodName := ⟨RX12, "law", "()I"⟩
abbrev cX12_walksFor : ByteArray := prog_14_method_33_code
def yX12_walksFor : MethodName := ⟨RX12, "walksFor", "(III)I"⟩
abbrev cX12_leads : ByteArray := prog_14_method_34_code
def yX12_leads : MethodName := ⟨RX12, "leads", "(III)V"⟩
abbrev cX12_through : ByteArray := prog_14_method_35_code
def yX12_through : MethodName := ⟨RX12, "through", "(II)V"⟩
abbrev cX12_asksSteps : ByteArray := prog_14_method_36_code
def yX12_asksSteps : MethodName := ⟨RX12, "asksSteps", "()V"⟩
abbrev cX12_goesFrom : ByteArray := prog_14_method_37_code
def yX12_goesFrom : MethodName := ⟨RX12, "goesFrom", "(I)V"⟩
abbrev cX12_wayFrom : ByteArray := prog_14_method_38_code
def yX12_wayFrom : MethodName := ⟨RX12, "wayFrom", "(II)I"⟩
abbrev cX12_isAb : ByteArray := prog_14_method_39_code
def yX12_isAb : MethodName := ⟨RX12, "isAb", "(I)Z"⟩
abbrev cX12_way : ByteArray := prog_14_method_40_code
def yX12_way : MethodName := ⟨RX12, "way", "(II)I"⟩
abbrev cX12_far : ByteArray := prog_14_method_41_code
def yX12_far : MethodName := ⟨RX12, "far", "(II)I"⟩
abbrev cX12_reach : ByteArray := prog_14_method_42_code
def yX12_reach : MethodName := ⟨RX12, "reach", "(II)I"⟩
abbrev cX12_widestNow : ByteArray := prog_14_method_43_code
def yX12_widestNow : MethodName := ⟨RX12, "widestNow", "()I"⟩
abbrev cX12_widest : ByteArray := prog_14_method_44_code
def yX12_widest : MethodName := ⟨RX12, "widest", "()I"⟩
abbrev cX12_dig : ByteArray := prog_14_method_45_code
def yX12_dig : MethodName := ⟨RX12, "dig", "(I)I"⟩
abbrev cX12_spare : ByteArray := prog_14_method_46_code
def yX12_spare : MethodName := ⟨RX12, "spare", "(II)I"⟩
abbrev cX12_pacing : ByteArray := prog_14_method_47_code
def yX12_pacing : MethodName := ⟨RX12, "pacing", "(III)I"⟩
abbrev cX12_areYards : ByteArray := prog_14_method_48_code
def yX12_areYards : MethodName := ⟨RX12, "areYards", "(I)Z"⟩
abbrev cX12_pace : ByteArray := prog_14_method_49_code
def yX12_pace : MethodName := ⟨RX12, "pace", "(III)I"⟩
abbrev cX12_isHoleIn : ByteArray := prog_14_method_50_code
def yX12_isHoleIn : MethodName := ⟨RX12, "isHoleIn", "(I)Z"⟩
abbrev cX12_meet : ByteArray := prog_14_method_51_code
def yX12_meet : MethodName := ⟨RX12, "meet", "(I)I"⟩
abbrev cX12_asksNews : ByteArray := prog_14_method_52_code
def yX12_asksNews : MethodName := ⟨RX12, "asksNews", "()V"⟩
abbrev cX12_news : ByteArray := prog_14_method_53_code
def yX12_news : MethodName := ⟨RX12, "news", "(I)I"⟩
abbrev cX12_heard : ByteArray := prog_14_method_54_code
def yX12_heard : MethodName := ⟨RX12, "heard", "(II)I"⟩
abbrev cX12_whence : ByteArray := prog_14_method_55_code
def yX12_whence : MethodName := ⟨RX12, "whence", "(III)I"⟩
abbrev cX12_beginsFrost : ByteArray := prog_14_method_56_code
def yX12_beginsFrost : MethodName := ⟨RX12, "beginsFrost", "()V"⟩
abbrev cX12_freezes : ByteArray := prog_14_method_57_code
def yX12_freezes : MethodName := ⟨RX12, "freezes", "()V"⟩
abbrev cX12_frost : ByteArray := prog_14_method_58_code
def yX12_frost : MethodName := ⟨RX12, "frost", "(II)I"⟩
abbrev cX12_frozen : ByteArray := prog_14_method_59_code
def yX12_frozen : MethodName := ⟨RX12, "frozen", "(I)I"⟩
abbrev cX12_isOwner : ByteArray := prog_14_method_60_code
def yX12_isOwner : MethodName := ⟨RX12, "isOwner", "(I)Z"⟩
abbrev cX12_tax : ByteArray := prog_14_method_61_code
def yX12_tax : MethodName := ⟨RX12, "tax", "(I)I"⟩
abbrev cX12_areOwners : ByteArray := prog_14_method_62_code
def yX12_areOwners : MethodName := ⟨RX12, "areOwners", "(I)Z"⟩
abbrev cX12_lend : ByteArray := prog_14_method_63_code
def yX12_lend : MethodName := ⟨RX12, "lend", "(II)I"⟩
abbrev cX12_clears : ByteArray := prog_14_method_64_code
def yX12_clears : MethodName := ⟨RX12, "clears", "()Z"⟩
abbrev cX12_bricks : ByteArray := prog_14_method_65_code
def yX12_bricks : MethodName := ⟨RX12, "bricks", "(II)I"⟩
abbrev cX12_shortsIs : ByteArray := prog_14_method_66_code
def yX12_shortsIs : MethodName := ⟨RX12, "shortsIs", "(I)I"⟩
abbrev cX12_itemAt : ByteArray := prog_14_method_67_code
def yX12_itemAt : MethodName := ⟨RX12, "itemAt", "(II)J"⟩
abbrev cX12_firstFalse : ByteArray := prog_14_method_68_code
def yX12_firstFalse : MethodName := ⟨RX12, "firstFalse", "(I)I"⟩
abbrev cX12_oneMan : ByteArray := prog_14_method_69_code
def yX12_oneMan : MethodName := ⟨RX12, "oneMan", "(I)I"⟩
abbrev cX12_where : ByteArray := prog_14_method_70_code
def yX12_where : MethodName := ⟨RX12, "where", "(III)I"⟩
abbrev cX12_drawn : ByteArray := prog_14_method_71_code
def yX12_drawn : MethodName := ⟨RX12, "drawn", "(IIII)I"⟩
abbrev cX12_go : ByteArray := prog_14_method_72_code
def yX12_go : MethodName := ⟨RX12, "go", "(I)I"⟩
abbrev cX12_digs : ByteArray := prog_14_method_73_code
def yX12_digs : MethodName := ⟨RX12, "digs", "()I"⟩
abbrev cX12_turn : ByteArray := prog_14_method_74_code
def yX12_turn : MethodName := ⟨RX12, "turn", "(II)I"⟩
abbrev cX12_led : ByteArray := prog_14_method_75_code
def yX12_led : MethodName := ⟨RX12, "led", "(I)I"⟩
abbrev cX12_image : ByteArray := prog_14_method_76_code
def yX12_image : MethodName := ⟨RX12, "image", "()I"⟩
abbrev cX12_back : ByteArray := prog_14_method_77_code
def yX12_back : MethodName := ⟨RX12, "back", "()I"⟩
abbrev cX12_isBody : ByteArray := prog_14_method_78_code
def yX12_isBody : MethodName := ⟨RX12, "isBody", "(I)Z"⟩
abbrev cX12_kindOf : ByteArray := prog_14_method_79_code
def yX12_kindOf : MethodName := ⟨RX12, "kindOf", "(I)I"⟩
abbrev cX12_body : ByteArray := prog_14_method_80_code
def yX12_body : MethodName := ⟨RX12, "body", "(I)I"⟩
abbrev cX12_above : ByteArray := prog_14_method_81_code
def yX12_above : MethodName := ⟨RX12, "above", "(I)I"⟩
abbrev cX12_begins : ByteArray := prog_14_method_82_code
def yX12_begins : MethodName := ⟨RX12, "begins", "(I)V"⟩
abbrev cX12_standsAs : ByteArray := prog_14_method_83_code
def yX12_standsAs : MethodName := ⟨RX12, "standsAs", "(II)I"⟩
abbrev cX12_bearsAs : ByteArray := prog_14_method_84_code
def yX12_bearsAs : MethodName := ⟨RX12, "bearsAs", "(II)I"⟩
abbrev cX12_knocksAs : ByteArray := prog_14_method_85_code
def yX12_knocksAs : MethodName := ⟨RX12, "knocksAs", "(II)I"⟩
abbrev cX12_tellsAs : ByteArray := prog_14_method_86_code
def yX12_tellsAs : MethodName := ⟨RX12, "tellsAs", "(II)I"⟩
abbrev cX12_act : ByteArray := prog_14_method_87_code
def yX12_act : MethodName := ⟨RX12, "act", "(III)I"⟩
abbrev cX12_trace : ByteArray := prog_14_method_88_code
def yX12_trace : MethodName := ⟨RX12, "trace", "(I)I"⟩
abbrev cX12_isShelf : ByteArray := prog_14_method_89_code
def yX12_isShelf : MethodName := ⟨RX12, "isShelf", "(I)Z"⟩
abbrev cX12_keep : ByteArray := prog_14_method_90_code
def yX12_keep : MethodName := ⟨RX12, "keep", "(II)I"⟩
abbrev cX12_row : ByteArray := prog_14_method_91_code
def yX12_row : MethodName := ⟨RX12, "row", "(III)I"⟩
abbrev cX12_refusal : ByteArray := prog_14_method_92_code
def yX12_refusal : MethodName := ⟨RX12, "refusal", "(II)I"⟩
abbrev cX12_asSort : ByteArray := prog_14_method_93_code
def yX12_asSort : MethodName := ⟨RX12, "asSort", "(IJ)J"⟩
abbrev cX12_put : ByteArray := prog_14_method_94_code
def yX12_put : MethodName := ⟨RX12, "put", "(IIJ)I"⟩
abbrev cX12_element : ByteArray := prog_14_method_95_code
def yX12_element : MethodName := ⟨RX12, "element", "(II)J"⟩
abbrev cX12_shift : ByteArray := prog_14_method_96_code
def yX12_shift : MethodName := ⟨RX12, "shift", "(IIIII)I"⟩
abbrev cX12_taken : ByteArray := prog_14_method_97_code
def yX12_taken : MethodName := ⟨RX12, "taken", "(II)I"⟩
abbrev cX12_count : ByteArray := prog_14_method_98_code
def yX12_count : MethodName := ⟨RX12, "count", "(I)I"⟩
def RJ11 : String := "java/lang/Character"
abbrev cJ11_isValidCodePoint_9a6ad : ByteArray := prog_15_method_11_code
def yJ11_isValidCodePoint_9a6ad : MethodName := ⟨RJ11, "isValidCodePoint", "(I)Z"⟩
abbrev cJ11_highSurrogate_5068e : ByteArray := prog_15_method_28_code
def yJ11_highSurrogate_5068e : MethodName := ⟨RJ11, "highSurrogate", "(I)C"⟩
abbrev cJ11_lowSurrogate_5068e : ByteArray := prog_15_method_29_code
def yJ11_lowSurrogate_5068e : MethodName := ⟨RJ11, "lowSurrogate", "(I)C"⟩
def RJ0 : String := "java/lang/String"
abbrev cJ0_length_8abf5 : ByteArray := prog_17_method_54_code
def yJ0_length_8abf5 : MethodName := ⟨RJ0, "length", "()I"⟩
abbrev cJ0_indexOf_0f7a4 : ByteArray := prog_17_method_79_code
def yJ0_indexOf_0f7a4 : MethodName := ⟨RJ0, "indexOf", "(I)I"⟩
abbrev cJ0_indexOf_7cf53 : ByteArray := prog_17_method_80_code
def yJ0_indexOf_7cf53 : MethodName := ⟨RJ0, "indexOf", "(II)I"⟩
abbrev cJ0_coder_7d493 : ByteArray := prog_17_method_152_code
def yJ0_coder_7d493 : MethodName := ⟨RJ0, "coder", "()B"⟩
abbrev cJ0_isLatin1_aae02 : ByteArray := prog_17_method_154_code
def yJ0_isLatin1_aae02 : MethodName := ⟨RJ0, "isLatin1", "()Z"⟩
abbrev cJ0_checkBoundsBeginEnd_23922 : ByteArray := prog_17_method_158_code
def yJ0_checkBoundsBeginEnd_23922 : MethodName := ⟨RJ0, "checkBoundsBeginEnd", "(III)V"⟩
def RJ1 : String := "java/lang/StringLatin1"
abbrev cJ1_canEncode_9a6ad : ByteArray := prog_18_method_4_code
def yJ1_canEncode_9a6ad : MethodName := ⟨RJ1, "canEncode", "(I)Z"⟩
abbrev cJ1_indexOf_4cfef : ByteArray := prog_18_method_22_code
def yJ1_indexOf_4cfef : MethodName := ⟨RJ1, "indexOf", "([BIII)I"⟩
abbrev cJ1_indexOfChar_4cfef : ByteArray := prog_18_method_23_code
def yJ1_indexOfChar_4cfef : MethodName := ⟨RJ1, "indexOfChar", "([BIII)I"⟩
def RJ2 : String := "java/lang/StringUTF16"
abbrev cJ2_getChar_3b067 : ByteArray := prog_19_method_5_code
def yJ2_getChar_3b067 : MethodName := ⟨RJ2, "getChar", "([BI)C"⟩
abbrev cJ2_length_9d52b : ByteArray := prog_19_method_6_code
def yJ2_length_9d52b : MethodName := ⟨RJ2, "length", "([B)I"⟩
abbrev cJ2_indexOf_4cfef : ByteArray := prog_19_method_40_code
def yJ2_indexOf_4cfef : MethodName := ⟨RJ2, "indexOf", "([BIII)I"⟩
abbrev cJ2_indexOfChar_4cfef : ByteArray := prog_19_method_47_code
def yJ2_indexOfChar_4cfef : MethodName := ⟨RJ2, "indexOfChar", "([BIII)I"⟩
abbrev cJ2_indexOfCharUnsafe_4cfef : ByteArray := prog_19_method_48_code
def yJ2_indexOfCharUnsafe_4cfef : MethodName := ⟨RJ2, "indexOfCharUnsafe", "([BIII)I"⟩
abbrev cJ2_indexOfSupplementary_4cfef : ByteArray := prog_19_method_49_code
def yJ2_indexOfSupplementary_4cfef : MethodName := ⟨RJ2, "indexOfSupplementary", "([BIII)I"⟩
abbrev cJ2_checkBoundsBeginEnd_d044e : ByteArray := prog_19_method_93_code
def yJ2_checkBoundsBeginEnd_d044e : MethodName := ⟨RJ2, "checkBoundsBeginEnd", "(II[B)V"⟩
def RJ7 : String := "java/util/Arrays"
abbrev cJ7_fill_d0a16 : ByteArray := prog_21_method_101_code
def yJ7_fill_d0a16 : MethodName := ⟨RJ7, "fill", "([JJ)V"⟩
abbrev cJ7_fill_53178 : ByteArray := prog_21_method_103_code
def yJ7_fill_53178 : MethodName := ⟨RJ7, "fill", "([II)V"⟩
def RJ3 : String := "jdk/internal/util/Preconditions"
abbrev cJ3_checkFromToIndex_8c36e : ByteArray := prog_22_method_12_code
def yJ3_checkFromToIndex_8c36e : MethodName := ⟨RJ3, "checkFromToIndex", "(IIILjava/util/function/BiFunction;)I"⟩
def RL : String := "OneWallLaw"
abbrev vwCl : List vw_C := [(RX0, TX0, 4), (RX1, TX1, 6), (RX2, TX2, 2), (RX3, TX3, 4), (RX4, TX4, 3), (RX5, TX5, 11), (RX8, TX8, 4), (RX9, TX9, 3), (RX10, TX10, 10), (RX11, TX11, 12), (RX12, TX12, 49)]

