set_option maxRecDepth 20000 in
theorem in_wsL_law0_r1 : ∀ w ∈ wsL_law0_r1, w ∈ lw_tbl := fun w h => (goodIn_p wsL_law0_r1 [21, 24, 29] (by decide +kernel) (by decide +kernel) w h).1
set_option maxRecDepth 20000 in
theorem in_wsL_law0_r2 : ∀ w ∈ wsL_law0_r2, w ∈ lw_tbl := fun w h => (goodIn_p wsL_law0_r2 [35] (by decide +kernel) (by decide +kernel) w h).1
def wsL_law0_r3a : List Cond := [Cond.instanceMethod yX0_init, Cond.code yX0_init cX0_init 2 none, Cond.methodLink RX0 3 objectInit, Cond.classLink RX0 9 RX1, Cond.fieldLink RX0 11 "GatheringCache$History" "states" "[LGatheringCache$State;", Cond.instanceMethod yX3_init, Cond.code yX3_init cX3_init 1 none, Cond.methodLink RX3 3 objectInit, Cond.arrayClass .char, Cond.fieldLink RX3 9 "GatheringCache$Text" "characters" "[C", Cond.methodLink RL 105 yL_holds, Cond.static yL_holds, Cond.initialized RL]
def wsL_law0_r3b : List Cond := [Cond.constantFloat RL 100 (1077936128), Cond.methodLink RL 11 yX4_charge, Cond.instanceMethod yX4_charge, Cond.selects RX4 yX4_charge yX4_charge, Cond.code yX4_charge cX4_charge 1 (some .int), Cond.fieldLink RX4 74 "GatheringCache$State" "stick" "LGatheringCache$Stick;", Cond.fieldLink RX4 78 "GatheringCache$Stick" "charge" "I", Cond.methodLink RL 27 yX4_count, Cond.instanceMethod yX4_count, Cond.selects RX4 yX4_count yX4_count]
set_option maxRecDepth 20000 in
set_option maxHeartbeats 4000000 in
theorem in_wsL_law0_r3c : Cond.code yL_holds cL_holds 8 (some .boolean) ∈ lw_tbl := List.mem_of_getElem? (i := 586) (by exact rfl)
set_option maxRecDepth 20000 in
theorem in_wsL_law0_r3a : ∀ w ∈ wsL_law0_r3a, w ∈ lw_tbl := fun w h => (goodIn_p wsL_law0_r3a [104, 124] (by decide +kernel) (by decide +kernel) w h).1
set_option maxRecDepth 20000 in
theorem in_wsL_law0_r3b : ∀ w ∈ wsL_law0_r3b, w ∈ lw_tbl := fun w h => (goodIn_p wsL_law0_r3b [284] (by decide +kernel) (by decide +kernel) w h).1
theorem wsL_law0_r3_eq : wsL_law0_r3 = wsL_law0_r3a ++ (Cond.code yL_holds cL_holds 8 (some .boolean) :: wsL_law0_r3b) := rfl
theorem in_wsL_law0_r3 : ∀ w ∈ wsL_law0_r3, w ∈ lw_tbl := by
  intro w h
  rw [wsL_law0_r3_eq] at h
  rcases List.mem_append.mp h with h | h
  · exact in_wsL_law0_r3a w h
  · rcases List.mem_cons.mp h with h | h
    · rw [h]; exact in_wsL_law0_r3c
    · exact in_wsL_law0_r3b w h
set_option maxRecDepth 20000 in
theorem in_wsL_law0_r4 : ∀ w ∈ wsL_law0_r4, w ∈ lw_tbl := fun w h => (goodIn_p wsL_law0_r4 [248, 590, 318, 339, 314, 517] (by decide +kernel) (by decide +kernel) w h).1
set_option maxRecDepth 20000 in
theorem in_wsL_law0_r5 : ∀ w ∈ wsL_law0_r5, w ∈ lw_tbl := fun w h => (goodIn_p wsL_law0_r5 [292, 344, 347, 303, 353, 504] (by decide +kernel) (by decide +kernel) w h).1
set_option maxRecDepth 20000 in
theorem in_wsL_law0_r6 : ∀ w ∈ wsL_law0_r6, w ∈ lw_tbl := fun w h => (goodIn_p wsL_law0_r6 [507, 484, 395, 398, 357, 300, 307] (by decide +kernel) (by decide +kernel) w h).1
set_option maxRecDepth 20000 in
theorem in_wsL_law0_r7 : ∀ w ∈ wsL_law0_r7, w ∈ lw_tbl := fun w h => (goodIn_p wsL_law0_r7 [311, 416, 420, 364, 368, 296] (by decide +kernel) (by decide +kernel) w h).1
set_option maxRecDepth 20000 in
theorem in_wsL_law0_r8 : ∀ w ∈ wsL_law0_r8, w ∈ lw_tbl := fun w h => (goodIn_p wsL_law0_r8 [595, 450, 288, 271, 275] (by decide +kernel) (by decide +kernel) w h).1
def wsL_law0_r9a : List Cond := [Cond.code yL_told cL_told 4 (some .long), Cond.constantLong RL 9 (31), Cond.methodLink RL 117 yX4_savedStates, Cond.instanceMethod yX4_savedStates, Cond.selects RX4 yX4_savedStates yX4_savedStates, Cond.code yX4_savedStates cX4_savedStates 1 (some .int), Cond.fieldLink RX4 135 "GatheringCache$History" "size" "I", Cond.methodLink RL 120 yL_acts, Cond.static yL_acts]
def wsL_law0_r9b : List Cond := [Cond.methodLink RL 61 yX4_power, Cond.instanceMethod yX4_power, Cond.selects RX4 yX4_power yX4_power, Cond.code yX4_power cX4_power 2 (some .int), Cond.methodLink RX4 44 yX0_save, Cond.instanceMethod yX0_save, Cond.selects RX0 yX0_save yX0_save, Cond.code yX0_save cX0_save 3 none, Cond.fieldLink RX0 18 "GatheringCache$History" "next" "I", Cond.fieldLink RX0 32 "GatheringCache$History" "size" "I", Cond.methodLink RX0 35 Lib.Math.min.name, Cond.static Lib.Math.min.name, Cond.initialized "java/lang/Math", Cond.code Lib.Math.min.name Lib.Math.min.code 2 (some .int)]
set_option maxRecDepth 20000 in
set_option maxHeartbeats 4000000 in
theorem in_wsL_law0_r9c : Cond.code yL_acts cL_acts 26 (some .boolean) ∈ lw_tbl := List.mem_of_getElem? (i := 360) (by exact rfl)
set_option maxRecDepth 20000 in
theorem in_wsL_law0_r9a : ∀ w ∈ wsL_law0_r9a, w ∈ lw_tbl := fun w h => (goodIn_p wsL_law0_r9a [279, 268] (by decide +kernel) (by decide +kernel) w h).1
set_option maxRecDepth 20000 in
theorem in_wsL_law0_r9b : ∀ w ∈ wsL_law0_r9b, w ∈ lw_tbl := fun w h => (goodIn_p wsL_law0_r9b [372, 376, 379] (by decide +kernel) (by decide +kernel) w h).1
theorem wsL_law0_r9_eq : wsL_law0_r9 = wsL_law0_r9a ++ (Cond.code yL_acts cL_acts 26 (some .boolean) :: wsL_law0_r9b) := rfl
theorem in_wsL_law0_r9 : ∀ w ∈ wsL_law0_r9, w ∈ lw_tbl := by
  intro w h
  rw [wsL_law0_r9_eq] at h
  rcases List.mem_append.mp h with h | h
  · exact in_wsL_law0_r9a w h
  · rcases List.mem_cons.mp h with h | h
    · rw [h]; exact in_wsL_law0_r9c
    · exact in_wsL_law0_r9b w h
set_option maxRecDepth 20000 in
theorem in_wsL_law0_r10 : ∀ w ∈ wsL_law0_r10, w ∈ lw_tbl := fun w h => (goodIn_p wsL_law0_r10 [232, 236, 240, 383] (by decide +kernel) (by decide +kernel) w h).1
set_option maxRecDepth 20000 in
theorem in_wsL_law0_r11 : ∀ w ∈ wsL_law0_r11, w ∈ lw_tbl := fun w h => (goodIn_p wsL_law0_r11 [387, 391, 402, 406, 409, 412] (by decide +kernel) (by decide +kernel) w h).1
set_option maxRecDepth 20000 in
theorem in_wsL_law0_r12 : ∀ w ∈ wsL_law0_r12, w ∈ lw_tbl := fun w h => (goodIn_p wsL_law0_r12 [424, 429, 433, 437, 441] (by decide +kernel) (by decide +kernel) w h).1
set_option maxRecDepth 20000 in
theorem in_wsL_law0_r13 : ∀ w ∈ wsL_law0_r13, w ∈ lw_tbl := fun w h => (goodIn_p wsL_law0_r13 [446, 454, 459, 229, 466] (by decide +kernel) (by decide +kernel) w h).1
set_option maxRecDepth 20000 in
theorem in_wsL_law0_r14 : ∀ w ∈ wsL_law0_r14, w ∈ lw_tbl := fun w h => (goodIn_p wsL_law0_r14 [471, 475, 480, 488, 494, 498] (by decide +kernel) (by decide +kernel) w h).1
set_option maxRecDepth 20000 in
theorem in_wsL_law0_r15 : ∀ w ∈ wsL_law0_r15, w ∈ lw_tbl := fun w h => (goodIn_p wsL_law0_r15 [513, 521, 525, 530, 534, 538] (by decide +kernel) (by decide +kernel) w h).1
set_option maxRecDepth 20000 in
theorem in_wsL_law0_r16 : ∀ w ∈ wsL_law0_r16, w ∈ lw_tbl := fun w h => (goodIn_p wsL_law0_r16 [542, 546, 550, 556, 560] (by decide +kernel) (by decide +kernel) w h).1
set_option maxRecDepth 20000 in
theorem in_wsL_law0_r17 : ∀ w ∈ wsL_law0_r17, w ∈ lw_tbl := fun w h => (goodIn_p wsL_law0_r17 [565, 570, 574, 578, 583, 154] (by decide +kernel) (by decide +kernel) w h).1
set_option maxRecDepth 20000 in
theorem in_wsL_law0_r18 : ∀ w ∈ wsL_law0_r18, w ∈ lw_tbl := fun w h => (goodIn_p wsL_law0_r18 [226] (by decide +kernel) (by decide +kernel) w h).1
set_option maxRecDepth 20000 in
theorem in_wsX00 : ∀ w ∈ wsX00, w ∈ lw_tbl := fun w h => (goodIn_p wsX00 [] (by decide +kernel) (by decide +kernel) w h).1
set_option maxRecDepth 20000 in
theorem in_wsX10 : ∀ w ∈ wsX10, w ∈ lw_tbl := fun w h => (goodIn_p wsX10 [] (by decide +kernel) (by decide +kernel) w h).1
set_option maxRecDepth 20000 in
theorem in_wsX20 : ∀ w ∈ wsX20, w ∈ lw_tbl := fun w h => (goodIn_p wsX20 [] (by decide +kernel) (by decide +kernel) w h).1
set_option maxRecDepth 20000 in
theorem in_wsX30 : ∀ w ∈ wsX30, w ∈ lw_tbl := fun w h => (goodIn_p wsX30 [] (by decide +kernel) (by decide +kernel) w h).1
set_option maxRecDepth 20000 in
theorem in_wsX40 : ∀ w ∈ wsX40, w ∈ lw_tbl := fun w h => (goodIn_p wsX40 [] (by decide +kernel) (by decide +kernel) w h).1
theorem wsL_law_in0 : ∀ w ∈ wsL_law0, w ∈ lw_tbl := fun w h => (List.mem_append.mp h).elim (fun h => (List.mem_append.mp h).elim (fun h => (List.mem_append.mp h).elim (fun h => (List.mem_append.mp h).elim (fun h => (List.mem_append.mp h).elim (fun h => (List.mem_append.mp h).elim (fun h => (List.mem_append.mp h).elim (fun h => in_wsL_law0_r1 w h) (fun h => (List.mem_append.mp h).elim (fun h => in_wsL_law0_r2 w h) (fun h => (List.mem_append.mp h).elim (fun h => in_wsL_law0_r3 w h) (fun h => (List.mem_append.mp h).elim (fun h => in_wsL_law0_r4 w h) (fun h => (List.mem_append.mp h).elim (fun h => in_wsL_law0_r5 w h) (fun h => (List.mem_append.mp h).elim (fun h => in_wsL_law0_r6 w h) (fun h => (List.mem_append.mp h).elim (fun h => in_wsL_law0_r7 w h) (fun h => (List.mem_append.mp h).elim (fun h => in_wsL_law0_r8 w h) (fun h => (List.mem_append.mp h).elim (fun h => in_wsL_law0_r9 w h) (fun h => (List.mem_append.mp h).elim (fun h => in_wsL_law0_r10 w h) (fun h => (List.mem_append.mp h).elim (fun h => in_wsL_law0_r11 w h) (fun h => (List.mem_append.mp h).elim (fun h => in_wsL_law0_r12 w h) (fun h => (List.mem_append.mp h).elim (fun h => in_wsL_law0_r13 w h) (fun h => (List.mem_append.mp h).elim (fun h => in_wsL_law0_r14 w h) (fun h => (List.mem_append.mp h).elim (fun h => in_wsL_law0_r15 w h) (fun h => (List.mem_append.mp h).elim (fun h => in_wsL_law0_r16 w h) (fun h => (List.mem_append.mp h).elim (fun h => in_wsL_law0_r17 w h) (fun h => in_wsL_law0_r18 w h)))))))))))))))))) (fun h => in_wsX40 w h)) (fun h => in_wsX10 w h)) (fun h => in_wsX00 w h)) (fun h => in_wsX30 w h)) (fun h => in_wsX20 w h)) (fun h => absurd h List.not_mem_nil)
theorem wsL_law_x0 : ∀ w ∈ (vx_atS RX4 38 "java/lang/IllegalArgumentException" ["java/lang/RuntimeException", "java/lang/Exception"]).filter goodWord, w ∈ lw_tbl := by decide +kernel
theorem wsL_law_x1 : ∀ w ∈ (vx_atS RX4 150 "java/lang/IndexOutOfBoundsException" ["java/lang/RuntimeException", "java/lang/Exception"]).filter goodWord, w ∈ lw_tbl := by decide +kernel
theorem wsL_law_x2 : ∀ w ∈ (vx_atS RX4 101 "java/lang/IllegalStateException" ["java/lang/RuntimeException", "java/lang/Exception"]).filter goodWord, w ∈ lw_tbl := by decide +kernel
theorem wsL_law_in : ∀ w ∈ wsL_law, w ∈ lw_tbl := fun w h => (List.mem_append.mp h).elim (fun h => (List.mem_append.mp h).elim (fun h => (List.mem_append.mp h).elim (fun h => wsL_law_in0 w h) (fun h => wsL_law_x0 w h)) (fun h => wsL_law_x1 w h)) (fun h => wsL_law_x2 w h)
theorem inlX0 : ∀ w ∈ wsX00, w ∈ wsL_law := fun _ h => List.mem_append_left _ (List.mem_append_left _ (List.mem_append_left _ (List.mem_append_left _ (List.mem_append_left _ (List.mem_append_left _ (List.mem_append_right _ h))))))
theorem inX0 : ∀ w ∈ wsX00, w ∈ lw_tbl := fun w h => wsL_law_in w (inlX0 w h)
theorem inlX1 : ∀ w ∈ wsX10, w ∈ wsL_law := fun _ h => List.mem_append_left _ (List.mem_append_left _ (List.mem_append_left _ (List.mem_append_left _ (List.mem_append_left _ (List.mem_append_left _ (List.mem_append_left _ (List.mem_append_right _ h)))))))
theorem inX1 : ∀ w ∈ wsX10, w ∈ lw_tbl := fun w h => wsL_law_in w (inlX1 w h)
theorem inlX2 : ∀ w ∈ wsX20, w ∈ wsL_law := fun _ h => List.mem_append_left _ (List.mem_append_left _ (List.mem_append_left _ (List.mem_append_left _ (List.mem_append_right _ h))))
theorem inX2 : ∀ w ∈ wsX20, w ∈ lw_tbl := fun w h => wsL_law_in w (inlX2 w h)
theorem inlX3 : ∀ w ∈ wsX30, w ∈ wsL_law := fun _ h => List.mem_append_left _ (List.mem_append_left _ (List.mem_append_left _ (List.mem_append_left _ (List.mem_append_left _ (List.mem_append_right _ h)))))
theorem inX3 : ∀ w ∈ wsX30, w ∈ lw_tbl := fun w h => wsL_law_in w (inlX3 w h)
theorem inlX4 : ∀ w ∈ wsX40, w ∈ wsL_law := fun _ h => List.mem_append_left _ (List.mem_append_left _ (List.mem_append_left _ (List.mem_append_left _ (List.mem_append_left _ (List.mem_append_left _ (List.mem_append_left _ (List.mem_append_left _ (List.mem_append_right _ h))))))))
theorem inX4 : ∀ w ∈ wsX40, w ∈ lw_tbl := fun w h => wsL_law_in w (inlX4 w h)
theorem inX5 : ∀ w ∈ wsX50, w ∈ lw_tbl := by decide +kernel
theorem inJ9 : ∀ w ∈ wsJ90, w ∈ lw_tbl := by decide +kernel
theorem inJ0 : ∀ w ∈ wsJ00, w ∈ lw_tbl := by decide +kernel
theorem inJ10 : ∀ w ∈ wsJ100, w ∈ lw_tbl := by decide +kernel
set_option maxRecDepth 20000 in
theorem ggX0_init_X1_init : GoodIn wsX0_init wsX1_init := goodIn_r _ [9, 10, 2, 3, 11, 12, 13, 14, 15, 16, 17, 18, 19, 20, 21, 22, 23, 24, 25, 26, 27, 28, 29, 30, 31, 32, 33, 44, 45, 46, 47, 48, 49, 50, 51, 52, 37, 38, 39, 40, 41, 42, 43] (by decide +kernel) (by decide +kernel)
set_option maxRecDepth 20000 in
theorem gX0_init_X1_init_n17 : GoodIn wsX0_init (wsX1_init) := ggX0_init_X1_init
theorem dX0_init_0 : decode cX0_init 0 = .ok (.aload_n 0, 1) := by decide +kernel
theorem dX0_init_1 : decode cX0_init 1 = .ok (.invokespecial 3, 3) := by decide +kernel
theorem dX0_init_4 : decode cX0_init 4 = .ok (.aload_n 0, 1) := by decide +kernel
theorem dX0_init_5 : decode cX0_init 5 = .ok (.bipush 6, 2) := by decide +kernel
theorem dX0_init_7 : decode cX0_init 7 = .ok (.anewarray 9, 3) := by decide +kernel
theorem dX0_init_10 : decode cX0_init 10 = .ok (.putfield 11, 3) := by decide +kernel
theorem dX0_init_13 : decode cX0_init 13 = .ok (.iconst 0, 1) := by decide +kernel
theorem dX0_init_14 : decode cX0_init 14 = .ok (.istore_n 1, 1) := by decide +kernel
theorem dX0_init_15 : decode cX0_init 15 = .ok (.iload_n 1, 1) := by decide +kernel
theorem dX0_init_16 : decode cX0_init 16 = .ok (.bipush 6, 2) := by decide +kernel
theorem dX0_init_18 : decode cX0_init 18 = .ok (.if_icmp .ge 22, 3) := by decide +kernel
theorem dX0_init_21 : decode cX0_init 21 = .ok (.aload_n 0, 1) := by decide +kernel
theorem dX0_init_22 : decode cX0_init 22 = .ok (.getfield 11, 3) := by decide +kernel
theorem dX0_init_25 : decode cX0_init 25 = .ok (.iload_n 1, 1) := by decide +kernel
theorem dX0_init_26 : decode cX0_init 26 = .ok (.new 9, 3) := by decide +kernel
theorem dX0_init_29 : decode cX0_init 29 = .ok (.dup, 1) := by decide +kernel
theorem dX0_init_30 : decode cX0_init 30 = .ok (.invokespecial 17, 3) := by decide +kernel
theorem dX0_init_33 : decode cX0_init 33 = .ok (.aastore, 1) := by decide +kernel
theorem dX0_init_34 : decode cX0_init 34 = .ok (.iinc 1 1, 3) := by decide +kernel
theorem dX0_init_37 : decode cX0_init 37 = .ok (.goto (-22), 3) := by decide +kernel
theorem dX0_init_40 : decode cX0_init 40 = .ok (.return_, 1) := by decide +kernel
set_option maxRecDepth 20000 in
theorem ggX0_save_J9_floorMod_7cf53 : GoodIn wsX0_save wsJ9_floorMod_7cf53 := goodIn_r _ [11] (by decide +kernel) (by decide +kernel)
set_option maxRecDepth 20000 in
theorem gX0_save_J9_floorMod_7cf53 : GoodIn wsX0_save (va_wsS RX0 22 yJ9_floorMod_7cf53 wsJ9_floorMod_7cf53) := goodIn_app (goodIn_of _ (by decide +kernel)) ggX0_save_J9_floorMod_7cf53
set_option maxRecDepth 20000 in
theorem ggX0_save_X1_copyFrom : GoodIn wsX0_save wsX1_copyFrom := goodIn_r _ [16, 17, 18, 19, 20, 21, 22, 23, 24, 25, 26, 27, 28, 29, 30, 31, 32, 33, 34, 35, 36, 37, 38, 39, 40, 41, 42, 46, 47, 48, 49, 50, 51, 52, 53, 54, 55, 56, 57, 58, 59, 60, 61] (by decide +kernel) (by decide +kernel)
set_option maxRecDepth 20000 in
theorem gX0_save_X1_copyFrom : GoodIn wsX0_save (wsV RX0 28 RX1 yX1_copyFrom wsX1_copyFrom) := goodIn_app (goodIn_of _ (by decide +kernel)) ggX0_save_X1_copyFrom
theorem dX0_save_0 : decode cX0_save 0 = .ok (.aload_n 0, 1) := by decide +kernel
theorem dX0_save_1 : decode cX0_save 1 = .ok (.getfield 11, 3) := by decide +kernel
theorem dX0_save_4 : decode cX0_save 4 = .ok (.aload_n 0, 1) := by decide +kernel
theorem dX0_save_5 : decode cX0_save 5 = .ok (.getfield 18, 3) := by decide +kernel
theorem dX0_save_8 : decode cX0_save 8 = .ok (.bipush 6, 2) := by decide +kernel
theorem dX0_save_10 : decode cX0_save 10 = .ok (.invokestatic 22, 3) := by decide +kernel
theorem dX0_save_13 : decode cX0_save 13 = .ok (.aaload, 1) := by decide +kernel
theorem dX0_save_14 : decode cX0_save 14 = .ok (.astore_n 2, 1) := by decide +kernel
theorem dX0_save_15 : decode cX0_save 15 = .ok (.aload_n 2, 1) := by decide +kernel
theorem dX0_save_16 : decode cX0_save 16 = .ok (.ifnull 8, 3) := by decide +kernel
theorem dX0_save_19 : decode cX0_save 19 = .ok (.aload_n 2, 1) := by decide +kernel
theorem dX0_save_20 : decode cX0_save 20 = .ok (.aload_n 1, 1) := by decide +kernel
theorem dX0_save_21 : decode cX0_save 21 = .ok (.invokevirtual 28, 3) := by decide +kernel
theorem dX0_save_24 : decode cX0_save 24 = .ok (.aload_n 0, 1) := by decide +kernel
theorem dX0_save_25 : decode cX0_save 25 = .ok (.dup, 1) := by decide +kernel
theorem dX0_save_26 : decode cX0_save 26 = .ok (.getfield 18, 3) := by decide +kernel
theorem dX0_save_29 : decode cX0_save 29 = .ok (.iconst 1, 1) := by decide +kernel
theorem dX0_save_30 : decode cX0_save 30 = .ok (.iadd, 1) := by decide +kernel
theorem dX0_save_31 : decode cX0_save 31 = .ok (.putfield 18, 3) := by decide +kernel
theorem dX0_save_34 : decode cX0_save 34 = .ok (.aload_n 0, 1) := by decide +kernel
theorem dX0_save_35 : decode cX0_save 35 = .ok (.aload_n 0, 1) := by decide +kernel
theorem dX0_save_36 : decode cX0_save 36 = .ok (.getfield 32, 3) := by decide +kernel
theorem dX0_save_39 : decode cX0_save 39 = .ok (.iconst 1, 1) := by decide +kernel
theorem dX0_save_40 : decode cX0_save 40 = .ok (.iadd, 1) := by decide +kernel
theorem dX0_save_41 : decode cX0_save 41 = .ok (.bipush 6, 2) := by decide +kernel
theorem dX0_save_43 : decode cX0_save 43 = .ok (.invokestatic 35, 3) := by decide +kernel
theorem dX0_save_46 : decode cX0_save 46 = .ok (.putfield 32, 3) := by decide +kernel
theorem dX0_save_49 : decode cX0_save 49 = .ok (.return_, 1) := by decide +kernel
set_option maxRecDepth 20000 in
theorem ggX0_restore_J9_floorMod_7cf53 : GoodIn wsX0_restore wsJ9_floorMod_7cf53 := goodIn_r _ [11] (by decide +kernel) (by decide +kernel)
set_option maxRecDepth 20000 in
theorem gX0_restore_J9_floorMod_7cf53 : GoodIn wsX0_restore (va_wsS RX0 22 yJ9_floorMod_7cf53 wsJ9_floorMod_7cf53) := goodIn_app (goodIn_of _ (by decide +kernel)) ggX0_restore_J9_floorMod_7cf53
set_option maxRecDepth 20000 in
theorem ggX0_restore_X1_copyFrom : GoodIn wsX0_restore wsX1_copyFrom := goodIn_r _ [16, 17, 18, 19, 20, 21, 22, 23, 24, 25, 26, 27, 28, 29, 30, 31, 32, 33, 34, 35, 36, 37, 38, 39, 40, 41, 42, 46, 47, 48, 49, 50, 51, 52, 53, 54, 55, 56, 57, 58, 59, 60, 61] (by decide +kernel) (by decide +kernel)
set_option maxRecDepth 20000 in
theorem gX0_restore_X1_copyFrom : GoodIn wsX0_restore (wsV RX0 28 RX1 yX1_copyFrom wsX1_copyFrom) := goodIn_app (goodIn_of _ (by decide +kernel)) ggX0_restore_X1_copyFrom
theorem dX0_restore_0 : decode cX0_restore 0 = .ok (.aload_n 0, 1) := by decide +kernel
theorem dX0_restore_1 : decode cX0_restore 1 = .ok (.dup, 1) := by decide +kernel
theorem dX0_restore_2 : decode cX0_restore 2 = .ok (.getfield 18, 3) := by decide +kernel
theorem dX0_restore_5 : decode cX0_restore 5 = .ok (.iconst 1, 1) := by decide +kernel
theorem dX0_restore_6 : decode cX0_restore 6 = .ok (.isub, 1) := by decide +kernel
theorem dX0_restore_7 : decode cX0_restore 7 = .ok (.putfield 18, 3) := by decide +kernel
theorem dX0_restore_10 : decode cX0_restore 10 = .ok (.aload_n 0, 1) := by decide +kernel
theorem dX0_restore_11 : decode cX0_restore 11 = .ok (.aload_n 0, 1) := by decide +kernel
theorem dX0_restore_12 : decode cX0_restore 12 = .ok (.getfield 32, 3) := by decide +kernel
theorem dX0_restore_15 : decode cX0_restore 15 = .ok (.iconst 1, 1) := by decide +kernel
theorem dX0_restore_16 : decode cX0_restore 16 = .ok (.isub, 1) := by decide +kernel
theorem dX0_restore_17 : decode cX0_restore 17 = .ok (.iconst 0, 1) := by decide +kernel
theorem dX0_restore_18 : decode cX0_restore 18 = .ok (.invokestatic 38, 3) := by decide +kernel
theorem dX0_restore_21 : decode cX0_restore 21 = .ok (.putfield 32, 3) := by decide +kernel
theorem dX0_restore_24 : decode cX0_restore 24 = .ok (.aload_n 0, 1) := by decide +kernel
theorem dX0_restore_25 : decode cX0_restore 25 = .ok (.getfield 11, 3) := by decide +kernel
theorem dX0_restore_28 : decode cX0_restore 28 = .ok (.aload_n 0, 1) := by decide +kernel
theorem dX0_restore_29 : decode cX0_restore 29 = .ok (.getfield 18, 3) := by decide +kernel
theorem dX0_restore_32 : decode cX0_restore 32 = .ok (.bipush 6, 2) := by decide +kernel
theorem dX0_restore_34 : decode cX0_restore 34 = .ok (.invokestatic 22, 3) := by decide +kernel
theorem dX0_restore_37 : decode cX0_restore 37 = .ok (.aaload, 1) := by decide +kernel
theorem dX0_restore_38 : decode cX0_restore 38 = .ok (.astore_n 2, 1) := by decide +kernel
theorem dX0_restore_39 : decode cX0_restore 39 = .ok (.aload_n 2, 1) := by decide +kernel
theorem dX0_restore_40 : decode cX0_restore 40 = .ok (.ifnull 8, 3) := by decide +kernel
theorem dX0_restore_43 : decode cX0_restore 43 = .ok (.aload_n 1, 1) := by decide +kernel
theorem dX0_restore_44 : decode cX0_restore 44 = .ok (.aload_n 2, 1) := by decide +kernel
theorem dX0_restore_45 : decode cX0_restore 45 = .ok (.invokevirtual 28, 3) := by decide +kernel
theorem dX0_restore_48 : decode cX0_restore 48 = .ok (.return_, 1) := by decide +kernel
set_option maxRecDepth 20000 in
theorem ggX1_init_X2_init : GoodIn wsX1_init wsX2_init := goodIn_r _ [16, 17, 2, 3, 8, 18, 19, 20, 21, 22, 23, 24, 25, 26, 27, 28, 29, 30, 31, 32, 33, 34, 35] (by decide +kernel) (by decide +kernel)
set_option maxRecDepth 20000 in
theorem gX1_init_X2_init : GoodIn wsX1_init (wsX2_init) := ggX1_init_X2_init
theorem dX1_init_0 : decode cX1_init 0 = .ok (.aload_n 0, 1) := by decide +kernel
theorem dX1_init_1 : decode cX1_init 1 = .ok (.invokespecial 3, 3) := by decide +kernel
theorem dX1_init_4 : decode cX1_init 4 = .ok (.aload_n 0, 1) := by decide +kernel
theorem dX1_init_5 : decode cX1_init 5 = .ok (.new 9, 3) := by decide +kernel
theorem dX1_init_8 : decode cX1_init 8 = .ok (.dup, 1) := by decide +kernel
theorem dX1_init_9 : decode cX1_init 9 = .ok (.invokespecial 11, 3) := by decide +kernel
theorem dX1_init_12 : decode cX1_init 12 = .ok (.putfield 12, 3) := by decide +kernel
theorem dX1_init_15 : decode cX1_init 15 = .ok (.aload_n 0, 1) := by decide +kernel
theorem dX1_init_16 : decode cX1_init 16 = .ok (.bipush 64, 2) := by decide +kernel
theorem dX1_init_18 : decode cX1_init 18 = .ok (.newarray .int, 2) := by decide +kernel
theorem dX1_init_20 : decode cX1_init 20 = .ok (.putfield 18, 3) := by decide +kernel
theorem dX1_init_23 : decode cX1_init 23 = .ok (.aload_n 0, 1) := by decide +kernel
theorem dX1_init_24 : decode cX1_init 24 = .ok (.bipush 64, 2) := by decide +kernel
theorem dX1_init_26 : decode cX1_init 26 = .ok (.newarray .int, 2) := by decide +kernel
theorem dX1_init_28 : decode cX1_init 28 = .ok (.putfield 22, 3) := by decide +kernel
theorem dX1_init_31 : decode cX1_init 31 = .ok (.aload_n 0, 1) := by decide +kernel
theorem dX1_init_32 : decode cX1_init 32 = .ok (.bipush 64, 2) := by decide +kernel
theorem dX1_init_34 : decode cX1_init 34 = .ok (.newarray .int, 2) := by decide +kernel
theorem dX1_init_36 : decode cX1_init 36 = .ok (.putfield 25, 3) := by decide +kernel
theorem dX1_init_39 : decode cX1_init 39 = .ok (.aload_n 0, 1) := by decide +kernel
theorem dX1_init_40 : decode cX1_init 40 = .ok (.bipush 9, 2) := by decide +kernel
theorem dX1_init_42 : decode cX1_init 42 = .ok (.newarray .int, 2) := by decide +kernel
theorem dX1_init_44 : decode cX1_init 44 = .ok (.putfield 28, 3) := by decide +kernel
theorem dX1_init_47 : decode cX1_init 47 = .ok (.aload_n 0, 1) := by decide +kernel
theorem dX1_init_48 : decode cX1_init 48 = .ok (.iconst 1, 1) := by decide +kernel
theorem dX1_init_49 : decode cX1_init 49 = .ok (.putfield 31, 3) := by decide +kernel
theorem dX1_init_52 : decode cX1_init 52 = .ok (.return_, 1) := by decide +kernel
set_option maxRecDepth 20000 in
theorem ggX1_copyFrom_X2_copyFrom : GoodIn wsX1_copyFrom wsX2_copyFrom := goodIn_r _ [16, 17, 18, 4, 5, 6, 19, 20, 21, 22, 23, 24, 25, 26, 34, 35, 36, 37, 38, 39, 40, 41, 42] (by decide +kernel) (by decide +kernel)
set_option maxRecDepth 20000 in
theorem gX1_copyFrom_X2_copyFrom : GoodIn wsX1_copyFrom (wsV RX1 35 RX2 yX2_copyFrom wsX2_copyFrom) := goodIn_app (goodIn_of _ (by decide +kernel)) ggX1_copyFrom_X2_copyFrom
theorem dX1_copyFrom_0 : decode cX1_copyFrom 0 = .ok (.aload_n 0, 1) := by decide +kernel
theorem dX1_copyFrom_1 : decode cX1_copyFrom 1 = .ok (.getfield 12, 3) := by decide +kernel
theorem dX1_copyFrom_4 : decode cX1_copyFrom 4 = .ok (.aload_n 1, 1) := by decide +kernel
theorem dX1_copyFrom_5 : decode cX1_copyFrom 5 = .ok (.getfield 12, 3) := by decide +kernel
theorem dX1_copyFrom_8 : decode cX1_copyFrom 8 = .ok (.invokevirtual 35, 3) := by decide +kernel
theorem dX1_copyFrom_11 : decode cX1_copyFrom 11 = .ok (.aload_n 1, 1) := by decide +kernel
theorem dX1_copyFrom_12 : decode cX1_copyFrom 12 = .ok (.getfield 18, 3) := by decide +kernel
theorem dX1_copyFrom_15 : decode cX1_copyFrom 15 = .ok (.iconst 0, 1) := by decide +kernel
theorem dX1_copyFrom_16 : decode cX1_copyFrom 16 = .ok (.aload_n 0, 1) := by decide +kernel
theorem dX1_copyFrom_17 : decode cX1_copyFrom 17 = .ok (.getfield 18, 3) := by decide +kernel
theorem dX1_copyFrom_20 : decode cX1_copyFrom 20 = .ok (.iconst 0, 1) := by decide +kernel
theorem dX1_copyFrom_21 : decode cX1_copyFrom 21 = .ok (.bipush 64, 2) := by decide +kernel
theorem dX1_copyFrom_23 : decode cX1_copyFrom 23 = .ok (.invokestatic 39, 3) := by decide +kernel
theorem dX1_copyFrom_26 : decode cX1_copyFrom 26 = .ok (.aload_n 1, 1) := by decide +kernel
theorem dX1_copyFrom_27 : decode cX1_copyFrom 27 = .ok (.getfield 22, 3) := by decide +kernel
theorem dX1_copyFrom_30 : decode cX1_copyFrom 30 = .ok (.iconst 0, 1) := by decide +kernel
theorem dX1_copyFrom_31 : decode cX1_copyFrom 31 = .ok (.aload_n 0, 1) := by decide +kernel
theorem dX1_copyFrom_32 : decode cX1_copyFrom 32 = .ok (.getfield 22, 3) := by decide +kernel
theorem dX1_copyFrom_35 : decode cX1_copyFrom 35 = .ok (.iconst 0, 1) := by decide +kernel
theorem dX1_copyFrom_36 : decode cX1_copyFrom 36 = .ok (.bipush 64, 2) := by decide +kernel
theorem dX1_copyFrom_38 : decode cX1_copyFrom 38 = .ok (.invokestatic 39, 3) := by decide +kernel
theorem dX1_copyFrom_41 : decode cX1_copyFrom 41 = .ok (.aload_n 1, 1) := by decide +kernel
theorem dX1_copyFrom_42 : decode cX1_copyFrom 42 = .ok (.getfield 25, 3) := by decide +kernel
theorem dX1_copyFrom_45 : decode cX1_copyFrom 45 = .ok (.iconst 0, 1) := by decide +kernel
theorem dX1_copyFrom_46 : decode cX1_copyFrom 46 = .ok (.aload_n 0, 1) := by decide +kernel
theorem dX1_copyFrom_47 : decode cX1_copyFrom 47 = .ok (.getfield 25, 3) := by decide +kernel
theorem dX1_copyFrom_50 : decode cX1_copyFrom 50 = .ok (.iconst 0, 1) := by decide +kernel
theorem dX1_copyFrom_51 : decode cX1_copyFrom 51 = .ok (.bipush 64, 2) := by decide +kernel
theorem dX1_copyFrom_53 : decode cX1_copyFrom 53 = .ok (.invokestatic 39, 3) := by decide +kernel
theorem dX1_copyFrom_56 : decode cX1_copyFrom 56 = .ok (.aload_n 1, 1) := by decide +kernel
theorem dX1_copyFrom_57 : decode cX1_copyFrom 57 = .ok (.getfield 28, 3) := by decide +kernel
theorem dX1_copyFrom_60 : decode cX1_copyFrom 60 = .ok (.iconst 0, 1) := by decide +kernel
theorem dX1_copyFrom_61 : decode cX1_copyFrom 61 = .ok (.aload_n 0, 1) := by decide +kernel
theorem dX1_copyFrom_62 : decode cX1_copyFrom 62 = .ok (.getfield 28, 3) := by decide +kernel
theorem dX1_copyFrom_65 : decode cX1_copyFrom 65 = .ok (.iconst 0, 1) := by decide +kernel
theorem dX1_copyFrom_66 : decode cX1_copyFrom 66 = .ok (.bipush 9, 2) := by decide +kernel
theorem dX1_copyFrom_68 : decode cX1_copyFrom 68 = .ok (.invokestatic 39, 3) := by decide +kernel
theorem dX1_copyFrom_71 : decode cX1_copyFrom 71 = .ok (.aload_n 0, 1) := by decide +kernel
theorem dX1_copyFrom_72 : decode cX1_copyFrom 72 = .ok (.aload_n 1, 1) := by decide +kernel
theorem dX1_copyFrom_73 : decode cX1_copyFrom 73 = .ok (.getfield 45, 3) := by decide +kernel
theorem dX1_copyFrom_76 : decode cX1_copyFrom 76 = .ok (.putfield 45, 3) := by decide +kernel
theorem dX1_copyFrom_79 : decode cX1_copyFrom 79 = .ok (.aload_n 0, 1) := by decide +kernel
theorem dX1_copyFrom_80 : decode cX1_copyFrom 80 = .ok (.aload_n 1, 1) := by decide +kernel
theorem dX1_copyFrom_81 : decode cX1_copyFrom 81 = .ok (.getfield 31, 3) := by decide +kernel
theorem dX1_copyFrom_84 : decode cX1_copyFrom 84 = .ok (.putfield 31, 3) := by decide +kernel
theorem dX1_copyFrom_87 : decode cX1_copyFrom 87 = .ok (.return_, 1) := by decide +kernel
theorem dX1_canDestage_0 : decode cX1_canDestage 0 = .ok (.aload_n 0, 1) := by decide +kernel
theorem dX1_canDestage_1 : decode cX1_canDestage 1 = .ok (.getfield 31, 3) := by decide +kernel
theorem dX1_canDestage_4 : decode cX1_canDestage 4 = .ok (.ifCond .eq 17, 3) := by decide +kernel
theorem dX1_canDestage_7 : decode cX1_canDestage 7 = .ok (.aload_n 0, 1) := by decide +kernel
theorem dX1_canDestage_8 : decode cX1_canDestage 8 = .ok (.getfield 12, 3) := by decide +kernel
theorem dX1_canDestage_11 : decode cX1_canDestage 11 = .ok (.getfield 49, 3) := by decide +kernel
theorem dX1_canDestage_14 : decode cX1_canDestage 14 = .ok (.ifCond .eq 7, 3) := by decide +kernel
theorem dX1_canDestage_17 : decode cX1_canDestage 17 = .ok (.iconst 1, 1) := by decide +kernel
theorem dX1_canDestage_18 : decode cX1_canDestage 18 = .ok (.goto 4, 3) := by decide +kernel
theorem dX1_canDestage_21 : decode cX1_canDestage 21 = .ok (.iconst 0, 1) := by decide +kernel
theorem dX1_canDestage_22 : decode cX1_canDestage 22 = .ok (.ireturn, 1) := by decide +kernel
theorem dX1_gathers_0 : decode cX1_gathers 0 = .ok (.aload_n 0, 1) := by decide +kernel
theorem dX1_gathers_1 : decode cX1_gathers 1 = .ok (.getfield 12, 3) := by decide +kernel
theorem dX1_gathers_4 : decode cX1_gathers 4 = .ok (.getfield 49, 3) := by decide +kernel
theorem dX1_gathers_7 : decode cX1_gathers 7 = .ok (.ifCond .eq 19, 3) := by decide +kernel
theorem dX1_gathers_10 : decode cX1_gathers 10 = .ok (.aload_n 0, 1) := by decide +kernel
theorem dX1_gathers_11 : decode cX1_gathers 11 = .ok (.getfield 12, 3) := by decide +kernel
theorem dX1_gathers_14 : decode cX1_gathers 14 = .ok (.getfield 52, 3) := by decide +kernel
theorem dX1_gathers_17 : decode cX1_gathers 17 = .ok (.bipush 20, 2) := by decide +kernel
theorem dX1_gathers_19 : decode cX1_gathers 19 = .ok (.if_icmp .lt 7, 3) := by decide +kernel
theorem dX1_gathers_22 : decode cX1_gathers 22 = .ok (.iconst 1, 1) := by decide +kernel
theorem dX1_gathers_23 : decode cX1_gathers 23 = .ok (.goto 4, 3) := by decide +kernel
theorem dX1_gathers_26 : decode cX1_gathers 26 = .ok (.iconst 0, 1) := by decide +kernel
theorem dX1_gathers_27 : decode cX1_gathers 27 = .ok (.ireturn, 1) := by decide +kernel
set_option maxRecDepth 20000 in
theorem ggX1_diskValueOf_X4_isBlock : GoodIn wsX1_diskValueOf wsX4_isBlock := goodIn_r _ [4] (by decide +kernel) (by decide +kernel)
set_option maxRecDepth 20000 in
theorem gX1_diskValueOf_X4_isBlock_n55 : GoodIn wsX1_diskValueOf (wsX4_isBlock) := ggX1_diskValueOf_X4_isBlock
theorem dX1_diskValueOf_0 : decode cX1_diskValueOf 0 = .ok (.iload_n 1, 1) := by decide +kernel
theorem dX1_diskValueOf_1 : decode cX1_diskValueOf 1 = .ok (.invokestatic 55, 3) := by decide +kernel
theorem dX1_diskValueOf_4 : decode cX1_diskValueOf 4 = .ok (.ifCond .eq 12, 3) := by decide +kernel
theorem dX1_diskValueOf_7 : decode cX1_diskValueOf 7 = .ok (.aload_n 0, 1) := by decide +kernel
theorem dX1_diskValueOf_8 : decode cX1_diskValueOf 8 = .ok (.getfield 18, 3) := by decide +kernel
theorem dX1_diskValueOf_11 : decode cX1_diskValueOf 11 = .ok (.iload_n 1, 1) := by decide +kernel
theorem dX1_diskValueOf_12 : decode cX1_diskValueOf 12 = .ok (.iaload, 1) := by decide +kernel
theorem dX1_diskValueOf_13 : decode cX1_diskValueOf 13 = .ok (.goto 4, 3) := by decide +kernel
theorem dX1_diskValueOf_16 : decode cX1_diskValueOf 16 = .ok (.iconst (-1), 1) := by decide +kernel
theorem dX1_diskValueOf_17 : decode cX1_diskValueOf 17 = .ok (.ireturn, 1) := by decide +kernel
set_option maxRecDepth 20000 in
theorem ggX1_putOnDisk_X4_isBlock : GoodIn wsX1_putOnDisk wsX4_isBlock := goodIn_r _ [5] (by decide +kernel) (by decide +kernel)
set_option maxRecDepth 20000 in
theorem gX1_putOnDisk_X4_isBlock_n55 : GoodIn wsX1_putOnDisk (wsX4_isBlock) := ggX1_putOnDisk_X4_isBlock
theorem dX1_putOnDisk_0 : decode cX1_putOnDisk 0 = .ok (.iload_n 1, 1) := by decide +kernel
theorem dX1_putOnDisk_1 : decode cX1_putOnDisk 1 = .ok (.invokestatic 55, 3) := by decide +kernel
theorem dX1_putOnDisk_4 : decode cX1_putOnDisk 4 = .ok (.ifCond .eq 17, 3) := by decide +kernel
theorem dX1_putOnDisk_7 : decode cX1_putOnDisk 7 = .ok (.aload_n 0, 1) := by decide +kernel
theorem dX1_putOnDisk_8 : decode cX1_putOnDisk 8 = .ok (.getfield 18, 3) := by decide +kernel
theorem dX1_putOnDisk_11 : decode cX1_putOnDisk 11 = .ok (.iload_n 1, 1) := by decide +kernel
theorem dX1_putOnDisk_12 : decode cX1_putOnDisk 12 = .ok (.iload_n 2, 1) := by decide +kernel
theorem dX1_putOnDisk_13 : decode cX1_putOnDisk 13 = .ok (.iastore, 1) := by decide +kernel
theorem dX1_putOnDisk_14 : decode cX1_putOnDisk 14 = .ok (.aload_n 0, 1) := by decide +kernel
theorem dX1_putOnDisk_15 : decode cX1_putOnDisk 15 = .ok (.getfield 22, 3) := by decide +kernel
theorem dX1_putOnDisk_18 : decode cX1_putOnDisk 18 = .ok (.iload_n 1, 1) := by decide +kernel
theorem dX1_putOnDisk_19 : decode cX1_putOnDisk 19 = .ok (.iload_n 3, 1) := by decide +kernel
theorem dX1_putOnDisk_20 : decode cX1_putOnDisk 20 = .ok (.iastore, 1) := by decide +kernel
theorem dX1_putOnDisk_21 : decode cX1_putOnDisk 21 = .ok (.return_, 1) := by decide +kernel
set_option maxRecDepth 20000 in
theorem ggX1_countWrittenTogether_X4_readsToWrite : GoodIn wsX1_countWrittenTogether wsX4_readsToWrite := goodIn_r _ [4] (by decide +kernel) (by decide +kernel)
set_option maxRecDepth 20000 in
theorem gX1_countWrittenTogether_X4_readsToWrite_n59 : GoodIn wsX1_countWrittenTogether (wsX4_readsToWrite) := ggX1_countWrittenTogether_X4_readsToWrite
set_option maxRecDepth 20000 in
theorem ggX1_countWrittenTogether_X4_writesToWrite : GoodIn wsX1_countWrittenTogether wsX4_writesToWrite := goodIn_r _ [6] (by decide +kernel) (by decide +kernel)
set_option maxRecDepth 20000 in
theorem gX1_countWrittenTogether_X4_writesToWrite_n63 : GoodIn wsX1_countWrittenTogether (wsX4_writesToWrite) := ggX1_countWrittenTogether_X4_writesToWrite
theorem dX1_countWrittenTogether_0 : decode cX1_countWrittenTogether 0 = .ok (.aload_n 0, 1) := by decide +kernel
theorem dX1_countWrittenTogether_1 : decode cX1_countWrittenTogether 1 = .ok (.getfield 28, 3) := by decide +kernel
theorem dX1_countWrittenTogether_4 : decode cX1_countWrittenTogether 4 = .ok (.iconst 0, 1) := by decide +kernel
theorem dX1_countWrittenTogether_5 : decode cX1_countWrittenTogether 5 = .ok (.dup2, 1) := by decide +kernel
theorem dX1_countWrittenTogether_6 : decode cX1_countWrittenTogether 6 = .ok (.iaload, 1) := by decide +kernel
theorem dX1_countWrittenTogether_7 : decode cX1_countWrittenTogether 7 = .ok (.iload_n 1, 1) := by decide +kernel
theorem dX1_countWrittenTogether_8 : decode cX1_countWrittenTogether 8 = .ok (.invokestatic 59, 3) := by decide +kernel
theorem dX1_countWrittenTogether_11 : decode cX1_countWrittenTogether 11 = .ok (.iadd, 1) := by decide +kernel
theorem dX1_countWrittenTogether_12 : decode cX1_countWrittenTogether 12 = .ok (.iastore, 1) := by decide +kernel
theorem dX1_countWrittenTogether_13 : decode cX1_countWrittenTogether 13 = .ok (.aload_n 0, 1) := by decide +kernel
theorem dX1_countWrittenTogether_14 : decode cX1_countWrittenTogether 14 = .ok (.getfield 28, 3) := by decide +kernel
theorem dX1_countWrittenTogether_17 : decode cX1_countWrittenTogether 17 = .ok (.iconst 1, 1) := by decide +kernel
theorem dX1_countWrittenTogether_18 : decode cX1_countWrittenTogether 18 = .ok (.dup2, 1) := by decide +kernel
theorem dX1_countWrittenTogether_19 : decode cX1_countWrittenTogether 19 = .ok (.iaload, 1) := by decide +kernel
theorem dX1_countWrittenTogether_20 : decode cX1_countWrittenTogether 20 = .ok (.iload_n 1, 1) := by decide +kernel
theorem dX1_countWrittenTogether_21 : decode cX1_countWrittenTogether 21 = .ok (.invokestatic 63, 3) := by decide +kernel
theorem dX1_countWrittenTogether_24 : decode cX1_countWrittenTogether 24 = .ok (.iadd, 1) := by decide +kernel
theorem dX1_countWrittenTogether_25 : decode cX1_countWrittenTogether 25 = .ok (.iastore, 1) := by decide +kernel
theorem dX1_countWrittenTogether_26 : decode cX1_countWrittenTogether 26 = .ok (.return_, 1) := by decide +kernel
set_option maxRecDepth 20000 in
theorem ggX1_writeBlock_X4_isBlock : GoodIn wsX1_writeBlock wsX4_isBlock := goodIn_r _ [6] (by decide +kernel) (by decide +kernel)
set_option maxRecDepth 20000 in
theorem gX1_writeBlock_X4_isBlock_n55 : GoodIn wsX1_writeBlock (wsX4_isBlock) := ggX1_writeBlock_X4_isBlock
set_option maxRecDepth 20000 in
theorem ggX1_writeBlock_X1_gathers : GoodIn wsX1_writeBlock wsX1_gathers := goodIn_r _ [11, 12, 13, 14, 91, 92, 93, 94, 95, 96, 97, 98, 99, 100, 101, 102, 103, 104, 105, 106] (by decide +kernel) (by decide +kernel)
set_option maxRecDepth 20000 in
theorem gX1_writeBlock_X1_gathers : GoodIn wsX1_writeBlock (wsV RX1 66 RX1 yX1_gathers wsX1_gathers) := goodIn_app (goodIn_of _ (by decide +kernel)) ggX1_writeBlock_X1_gathers
set_option maxRecDepth 20000 in
theorem ggX1_writeBlock_X1_gather : GoodIn wsX1_writeBlock wsX1_gather := goodIn_r _ [18, 12, 2, 1, 19, 5, 20, 21, 22, 23, 24, 25, 26, 27, 28, 29, 30, 31, 32, 33, 34, 35, 36, 37, 38, 39, 40, 41, 42, 43, 44, 45, 46, 47, 48, 49, 10, 50, 51, 52, 53, 54, 55, 56, 57, 58, 59, 60, 61, 4, 6, 62, 63, 64, 65, 66, 67, 68, 69, 70, 71, 72, 73, 74, 75, 76, 77, 78, 79, 80, 91, 92, 93, 94, 95, 96, 97, 98, 99, 100, 101, 102, 103, 104, 105, 106] (by decide +kernel) (by decide +kernel)
set_option maxRecDepth 20000 in
theorem gX1_writeBlock_X1_gather : GoodIn wsX1_writeBlock (wsV RX1 70 RX1 yX1_gather wsX1_gather) := goodIn_app (goodIn_of _ (by decide +kernel)) ggX1_writeBlock_X1_gather
set_option maxRecDepth 20000 in
theorem ggX1_writeBlock_X1_writeThrough : GoodIn wsX1_writeBlock wsX1_writeThrough := goodIn_r _ [84, 2, 12, 1, 56, 57, 58, 10, 59, 60, 61, 4, 5, 6, 62, 63, 64, 65, 66, 67, 68, 69, 85, 86, 87, 24, 88, 89, 90, 22, 23, 25, 26, 70, 71, 72, 73, 74, 75, 33, 27, 28, 76, 77, 78, 79, 80, 34, 91, 92, 93, 94, 95, 96, 97, 98, 99, 100, 101, 102, 103, 104, 105, 106] (by decide +kernel) (by decide +kernel)
set_option maxRecDepth 20000 in
theorem gX1_writeBlock_X1_writeThrough : GoodIn wsX1_writeBlock (wsV RX1 74 RX1 yX1_writeThrough wsX1_writeThrough) := goodIn_app (goodIn_of _ (by decide +kernel)) ggX1_writeBlock_X1_writeThrough
theorem dX1_writeBlock_0 : decode cX1_writeBlock 0 = .ok (.aload_n 0, 1) := by decide +kernel
theorem dX1_writeBlock_1 : decode cX1_writeBlock 1 = .ok (.getfield 28, 3) := by decide +kernel
theorem dX1_writeBlock_4 : decode cX1_writeBlock 4 = .ok (.iconst 0, 1) := by decide +kernel
theorem dX1_writeBlock_5 : decode cX1_writeBlock 5 = .ok (.iaload, 1) := by decide +kernel
theorem dX1_writeBlock_6 : decode cX1_writeBlock 6 = .ok (.aload_n 0, 1) := by decide +kernel
theorem dX1_writeBlock_7 : decode cX1_writeBlock 7 = .ok (.getfield 28, 3) := by decide +kernel
theorem dX1_writeBlock_10 : decode cX1_writeBlock 10 = .ok (.iconst 1, 1) := by decide +kernel
theorem dX1_writeBlock_11 : decode cX1_writeBlock 11 = .ok (.iaload, 1) := by decide +kernel
theorem dX1_writeBlock_12 : decode cX1_writeBlock 12 = .ok (.iadd, 1) := by decide +kernel
theorem dX1_writeBlock_13 : decode cX1_writeBlock 13 = .ok (.istore_n 3, 1) := by decide +kernel
theorem dX1_writeBlock_14 : decode cX1_writeBlock 14 = .ok (.aload_n 0, 1) := by decide +kernel
theorem dX1_writeBlock_15 : decode cX1_writeBlock 15 = .ok (.dup, 1) := by decide +kernel
theorem dX1_writeBlock_16 : decode cX1_writeBlock 16 = .ok (.getfield 45, 3) := by decide +kernel
theorem dX1_writeBlock_19 : decode cX1_writeBlock 19 = .ok (.iconst 1, 1) := by decide +kernel
theorem dX1_writeBlock_20 : decode cX1_writeBlock 20 = .ok (.iadd, 1) := by decide +kernel
theorem dX1_writeBlock_21 : decode cX1_writeBlock 21 = .ok (.putfield 45, 3) := by decide +kernel
theorem dX1_writeBlock_24 : decode cX1_writeBlock 24 = .ok (.iload_n 1, 1) := by decide +kernel
theorem dX1_writeBlock_25 : decode cX1_writeBlock 25 = .ok (.invokestatic 55, 3) := by decide +kernel
theorem dX1_writeBlock_28 : decode cX1_writeBlock 28 = .ok (.ifCond .eq 13, 3) := by decide +kernel
theorem dX1_writeBlock_31 : decode cX1_writeBlock 31 = .ok (.aload_n 0, 1) := by decide +kernel
theorem dX1_writeBlock_32 : decode cX1_writeBlock 32 = .ok (.getfield 25, 3) := by decide +kernel
theorem dX1_writeBlock_35 : decode cX1_writeBlock 35 = .ok (.iload_n 1, 1) := by decide +kernel
theorem dX1_writeBlock_36 : decode cX1_writeBlock 36 = .ok (.aload_n 0, 1) := by decide +kernel
theorem dX1_writeBlock_37 : decode cX1_writeBlock 37 = .ok (.getfield 45, 3) := by decide +kernel
theorem dX1_writeBlock_40 : decode cX1_writeBlock 40 = .ok (.iastore, 1) := by decide +kernel
theorem dX1_writeBlock_41 : decode cX1_writeBlock 41 = .ok (.aload_n 0, 1) := by decide +kernel
theorem dX1_writeBlock_42 : decode cX1_writeBlock 42 = .ok (.invokevirtual 66, 3) := by decide +kernel
theorem dX1_writeBlock_45 : decode cX1_writeBlock 45 = .ok (.ifCond .eq 12, 3) := by decide +kernel
theorem dX1_writeBlock_48 : decode cX1_writeBlock 48 = .ok (.aload_n 0, 1) := by decide +kernel
theorem dX1_writeBlock_49 : decode cX1_writeBlock 49 = .ok (.iload_n 1, 1) := by decide +kernel
theorem dX1_writeBlock_50 : decode cX1_writeBlock 50 = .ok (.iload_n 2, 1) := by decide +kernel
theorem dX1_writeBlock_51 : decode cX1_writeBlock 51 = .ok (.invokevirtual 70, 3) := by decide +kernel
theorem dX1_writeBlock_54 : decode cX1_writeBlock 54 = .ok (.goto 9, 3) := by decide +kernel
theorem dX1_writeBlock_57 : decode cX1_writeBlock 57 = .ok (.aload_n 0, 1) := by decide +kernel
theorem dX1_writeBlock_58 : decode cX1_writeBlock 58 = .ok (.iload_n 1, 1) := by decide +kernel
theorem dX1_writeBlock_59 : decode cX1_writeBlock 59 = .ok (.iload_n 2, 1) := by decide +kernel
theorem dX1_writeBlock_60 : decode cX1_writeBlock 60 = .ok (.invokevirtual 74, 3) := by decide +kernel
theorem dX1_writeBlock_63 : decode cX1_writeBlock 63 = .ok (.aload_n 0, 1) := by decide +kernel
theorem dX1_writeBlock_64 : decode cX1_writeBlock 64 = .ok (.getfield 28, 3) := by decide +kernel
theorem dX1_writeBlock_67 : decode cX1_writeBlock 67 = .ok (.iconst 0, 1) := by decide +kernel
theorem dX1_writeBlock_68 : decode cX1_writeBlock 68 = .ok (.iaload, 1) := by decide +kernel
theorem dX1_writeBlock_69 : decode cX1_writeBlock 69 = .ok (.aload_n 0, 1) := by decide +kernel
theorem dX1_writeBlock_70 : decode cX1_writeBlock 70 = .ok (.getfield 28, 3) := by decide +kernel
theorem dX1_writeBlock_73 : decode cX1_writeBlock 73 = .ok (.iconst 1, 1) := by decide +kernel
theorem dX1_writeBlock_74 : decode cX1_writeBlock 74 = .ok (.iaload, 1) := by decide +kernel
theorem dX1_writeBlock_75 : decode cX1_writeBlock 75 = .ok (.iadd, 1) := by decide +kernel
theorem dX1_writeBlock_76 : decode cX1_writeBlock 76 = .ok (.iload_n 3, 1) := by decide +kernel
theorem dX1_writeBlock_77 : decode cX1_writeBlock 77 = .ok (.isub, 1) := by decide +kernel
theorem dX1_writeBlock_78 : decode cX1_writeBlock 78 = .ok (.ireturn, 1) := by decide +kernel
set_option maxRecDepth 20000 in
theorem ggX1_gather_X4_stripeOf : GoodIn wsX1_gather wsX4_stripeOf := goodIn_r _ [6] (by decide +kernel) (by decide +kernel)
set_option maxRecDepth 20000 in
theorem gX1_gather_X4_stripeOf_n77 : GoodIn wsX1_gather (wsX4_stripeOf) := ggX1_gather_X4_stripeOf
set_option maxRecDepth 20000 in
theorem ggX1_gather_X2_lineOf : GoodIn wsX1_gather wsX2_lineOf := goodIn_r _ [11, 12, 77, 78, 79, 80, 81, 82, 83, 84, 85] (by decide +kernel) (by decide +kernel)
set_option maxRecDepth 20000 in
theorem gX1_gather_X2_lineOf : GoodIn wsX1_gather (wsV RX1 80 RX2 yX2_lineOf wsX2_lineOf) := goodIn_app (goodIn_of _ (by decide +kernel)) ggX1_gather_X2_lineOf
set_option maxRecDepth 20000 in
theorem ggX1_gather_X4_isLine : GoodIn wsX1_gather wsX4_isLine := goodIn_r _ [14] (by decide +kernel) (by decide +kernel)
set_option maxRecDepth 20000 in
theorem gX1_gather_X4_isLine_n83 : GoodIn wsX1_gather (wsX4_isLine) := ggX1_gather_X4_isLine
set_option maxRecDepth 20000 in
theorem ggX1_gather_X2_freeLine : GoodIn wsX1_gather wsX2_freeLine := goodIn_r _ [18, 19, 12, 20, 77, 78, 79, 80, 81, 82, 83, 84, 85] (by decide +kernel) (by decide +kernel)
set_option maxRecDepth 20000 in
theorem gX1_gather_X2_freeLine : GoodIn wsX1_gather (wsV RX1 86 RX2 yX2_freeLine wsX2_freeLine) := goodIn_app (goodIn_of _ (by decide +kernel)) ggX1_gather_X2_freeLine
set_option maxRecDepth 20000 in
theorem ggX1_gather_X2_fullestStripe : GoodIn wsX1_gather wsX2_fullestStripe := goodIn_r _ [24, 25, 26, 27, 10, 28, 29, 30, 31, 32, 19, 12, 4, 5, 6, 77, 78, 79, 80, 81, 82, 83, 84, 85] (by decide +kernel) (by decide +kernel)
set_option maxRecDepth 20000 in
theorem gX1_gather_X2_fullestStripe : GoodIn wsX1_gather (wsV RX1 89 RX2 yX2_fullestStripe wsX2_fullestStripe) := goodIn_app (goodIn_of _ (by decide +kernel)) ggX1_gather_X2_fullestStripe
set_option maxRecDepth 20000 in
theorem ggX1_gather_X1_destageStripe : GoodIn wsX1_gather wsX1_destageStripe := goodIn_r _ [37, 1, 38, 39, 40, 41, 3, 42, 30, 31, 10, 32, 19, 12, 4, 5, 6, 43, 44, 45, 36, 46, 47, 48, 49, 50, 51, 52, 53, 54, 55, 56, 57, 58, 70, 71, 72, 73, 74, 75, 76, 77, 78, 79, 80, 81, 82, 83, 84, 85] (by decide +kernel) (by decide +kernel)
set_option maxRecDepth 20000 in
theorem gX1_gather_X1_destageStripe : GoodIn wsX1_gather (wsV RX1 92 RX1 yX1_destageStripe wsX1_destageStripe) := goodIn_app (goodIn_of _ (by decide +kernel)) ggX1_gather_X1_destageStripe
set_option maxRecDepth 20000 in
theorem ggX1_gather_X2_fill : GoodIn wsX1_gather wsX2_fill := goodIn_r _ [62, 12, 63, 64, 19, 13, 5, 14, 65, 66, 67, 10, 68, 69, 20, 77, 78, 79, 80, 81, 82, 83, 84, 85] (by decide +kernel) (by decide +kernel)
set_option maxRecDepth 20000 in
theorem gX1_gather_X2_fill : GoodIn wsX1_gather (wsV RX1 95 RX2 yX2_fill wsX2_fill) := goodIn_app (goodIn_of _ (by decide +kernel)) ggX1_gather_X2_fill
theorem dX1_gather_0 : decode cX1_gather 0 = .ok (.iload_n 1, 1) := by decide +kernel
theorem dX1_gather_1 : decode cX1_gather 1 = .ok (.invokestatic 77, 3) := by decide +kernel
theorem dX1_gather_4 : decode cX1_gather 4 = .ok (.iconst 4, 1) := by decide +kernel
theorem dX1_gather_5 : decode cX1_gather 5 = .ok (.irem, 1) := by decide +kernel
theorem dX1_gather_6 : decode cX1_gather 6 = .ok (.istore_n 3, 1) := by decide +kernel
theorem dX1_gather_7 : decode cX1_gather 7 = .ok (.aload_n 0, 1) := by decide +kernel
theorem dX1_gather_8 : decode cX1_gather 8 = .ok (.getfield 12, 3) := by decide +kernel
theorem dX1_gather_11 : decode cX1_gather 11 = .ok (.iload_n 1, 1) := by decide +kernel
theorem dX1_gather_12 : decode cX1_gather 12 = .ok (.invokevirtual 80, 3) := by decide +kernel
theorem dX1_gather_15 : decode cX1_gather 15 = .ok (.istore 4, 2) := by decide +kernel
theorem dX1_gather_17 : decode cX1_gather 17 = .ok (.iload 4, 2) := by decide +kernel
theorem dX1_gather_19 : decode cX1_gather 19 = .ok (.invokestatic 83, 3) := by decide +kernel
theorem dX1_gather_22 : decode cX1_gather 22 = .ok (.ifCond .ne 13, 3) := by decide +kernel
theorem dX1_gather_25 : decode cX1_gather 25 = .ok (.aload_n 0, 1) := by decide +kernel
theorem dX1_gather_26 : decode cX1_gather 26 = .ok (.getfield 12, 3) := by decide +kernel
theorem dX1_gather_29 : decode cX1_gather 29 = .ok (.iload_n 3, 1) := by decide +kernel
theorem dX1_gather_30 : decode cX1_gather 30 = .ok (.invokevirtual 86, 3) := by decide +kernel
theorem dX1_gather_33 : decode cX1_gather 33 = .ok (.istore 4, 2) := by decide +kernel
theorem dX1_gather_35 : decode cX1_gather 35 = .ok (.iload 4, 2) := by decide +kernel
theorem dX1_gather_37 : decode cX1_gather 37 = .ok (.invokestatic 83, 3) := by decide +kernel
theorem dX1_gather_40 : decode cX1_gather 40 = .ok (.ifCond .ne 26, 3) := by decide +kernel
theorem dX1_gather_43 : decode cX1_gather 43 = .ok (.aload_n 0, 1) := by decide +kernel
theorem dX1_gather_44 : decode cX1_gather 44 = .ok (.aload_n 0, 1) := by decide +kernel
theorem dX1_gather_45 : decode cX1_gather 45 = .ok (.getfield 12, 3) := by decide +kernel
theorem dX1_gather_48 : decode cX1_gather 48 = .ok (.iload_n 3, 1) := by decide +kernel
theorem dX1_gather_49 : decode cX1_gather 49 = .ok (.invokevirtual 89, 3) := by decide +kernel
theorem dX1_gather_52 : decode cX1_gather 52 = .ok (.invokevirtual 92, 3) := by decide +kernel
theorem dX1_gather_55 : decode cX1_gather 55 = .ok (.pop, 1) := by decide +kernel
theorem dX1_gather_56 : decode cX1_gather 56 = .ok (.aload_n 0, 1) := by decide +kernel
theorem dX1_gather_57 : decode cX1_gather 57 = .ok (.getfield 12, 3) := by decide +kernel
theorem dX1_gather_60 : decode cX1_gather 60 = .ok (.iload_n 3, 1) := by decide +kernel
theorem dX1_gather_61 : decode cX1_gather 61 = .ok (.invokevirtual 86, 3) := by decide +kernel
theorem dX1_gather_64 : decode cX1_gather 64 = .ok (.istore 4, 2) := by decide +kernel
theorem dX1_gather_66 : decode cX1_gather 66 = .ok (.aload_n 0, 1) := by decide +kernel
theorem dX1_gather_67 : decode cX1_gather 67 = .ok (.getfield 12, 3) := by decide +kernel
theorem dX1_gather_70 : decode cX1_gather 70 = .ok (.iload 4, 2) := by decide +kernel
theorem dX1_gather_72 : decode cX1_gather 72 = .ok (.iload_n 1, 1) := by decide +kernel
theorem dX1_gather_73 : decode cX1_gather 73 = .ok (.iload_n 2, 1) := by decide +kernel
theorem dX1_gather_74 : decode cX1_gather 74 = .ok (.aload_n 0, 1) := by decide +kernel
theorem dX1_gather_75 : decode cX1_gather 75 = .ok (.getfield 45, 3) := by decide +kernel
theorem dX1_gather_78 : decode cX1_gather 78 = .ok (.iconst 1, 1) := by decide +kernel
theorem dX1_gather_79 : decode cX1_gather 79 = .ok (.invokevirtual 95, 3) := by decide +kernel
theorem dX1_gather_82 : decode cX1_gather 82 = .ok (.aload_n 0, 1) := by decide +kernel
theorem dX1_gather_83 : decode cX1_gather 83 = .ok (.getfield 28, 3) := by decide +kernel
theorem dX1_gather_86 : decode cX1_gather 86 = .ok (.iconst 2, 1) := by decide +kernel
theorem dX1_gather_87 : decode cX1_gather 87 = .ok (.dup2, 1) := by decide +kernel
theorem dX1_gather_88 : decode cX1_gather 88 = .ok (.iaload, 1) := by decide +kernel
theorem dX1_gather_89 : decode cX1_gather 89 = .ok (.iconst 1, 1) := by decide +kernel
theorem dX1_gather_90 : decode cX1_gather 90 = .ok (.iadd, 1) := by decide +kernel
theorem dX1_gather_91 : decode cX1_gather 91 = .ok (.iastore, 1) := by decide +kernel
theorem dX1_gather_92 : decode cX1_gather 92 = .ok (.return_, 1) := by decide +kernel
set_option maxRecDepth 20000 in
theorem ggX1_writeThrough_X1_putOnDisk : GoodIn wsX1_writeThrough wsX1_putOnDisk := goodIn_r _ [8, 9, 10, 11, 12, 13, 48, 49, 50, 51, 52, 53, 54] (by decide +kernel) (by decide +kernel)
set_option maxRecDepth 20000 in
theorem gX1_writeThrough_X1_putOnDisk : GoodIn wsX1_writeThrough (wsV RX1 99 RX1 yX1_putOnDisk wsX1_putOnDisk) := goodIn_app (goodIn_of _ (by decide +kernel)) ggX1_writeThrough_X1_putOnDisk
set_option maxRecDepth 20000 in
theorem ggX1_writeThrough_X1_countWrittenTogether : GoodIn wsX1_writeThrough wsX1_countWrittenTogether := goodIn_r _ [17, 3, 18, 12, 19, 20, 21, 48, 49, 50, 51, 52, 53, 54] (by decide +kernel) (by decide +kernel)
set_option maxRecDepth 20000 in
theorem gX1_writeThrough_X1_countWrittenTogether : GoodIn wsX1_writeThrough (wsV RX1 103 RX1 yX1_countWrittenTogether wsX1_countWrittenTogether) := goodIn_app (goodIn_of _ (by decide +kernel)) ggX1_writeThrough_X1_countWrittenTogether
set_option maxRecDepth 20000 in
theorem ggX1_writeThrough_X2_lineInReach : GoodIn wsX1_writeThrough wsX2_lineInReach := goodIn_r _ [26, 27, 28, 29, 30, 25, 31, 32, 55, 56, 57, 58, 59, 60, 61, 62, 63] (by decide +kernel) (by decide +kernel)
set_option maxRecDepth 20000 in
theorem gX1_writeThrough_X2_lineInReach : GoodIn wsX1_writeThrough (wsV RX1 107 RX2 yX2_lineInReach wsX2_lineInReach) := goodIn_app (goodIn_of _ (by decide +kernel)) ggX1_writeThrough_X2_lineInReach
set_option maxRecDepth 20000 in
theorem ggX1_writeThrough_X2_fill : GoodIn wsX1_writeThrough wsX2_fill := goodIn_r _ [36, 32, 37, 38, 39, 40, 12, 41, 42, 43, 44, 25, 45, 46, 47, 55, 56, 57, 58, 59, 60, 61, 62, 63] (by decide +kernel) (by decide +kernel)
set_option maxRecDepth 20000 in
theorem gX1_writeThrough_X2_fill : GoodIn wsX1_writeThrough (wsV RX1 95 RX2 yX2_fill wsX2_fill) := goodIn_app (goodIn_of _ (by decide +kernel)) ggX1_writeThrough_X2_fill
theorem dX1_writeThrough_0 : decode cX1_writeThrough 0 = .ok (.aload_n 0, 1) := by decide +kernel
theorem dX1_writeThrough_1 : decode cX1_writeThrough 1 = .ok (.iload_n 1, 1) := by decide +kernel
theorem dX1_writeThrough_2 : decode cX1_writeThrough 2 = .ok (.iload_n 2, 1) := by decide +kernel
theorem dX1_writeThrough_3 : decode cX1_writeThrough 3 = .ok (.aload_n 0, 1) := by decide +kernel
theorem dX1_writeThrough_4 : decode cX1_writeThrough 4 = .ok (.getfield 45, 3) := by decide +kernel
theorem dX1_writeThrough_7 : decode cX1_writeThrough 7 = .ok (.invokevirtual 99, 3) := by decide +kernel
theorem dX1_writeThrough_10 : decode cX1_writeThrough 10 = .ok (.aload_n 0, 1) := by decide +kernel
theorem dX1_writeThrough_11 : decode cX1_writeThrough 11 = .ok (.iconst 1, 1) := by decide +kernel
theorem dX1_writeThrough_12 : decode cX1_writeThrough 12 = .ok (.invokevirtual 103, 3) := by decide +kernel
theorem dX1_writeThrough_15 : decode cX1_writeThrough 15 = .ok (.aload_n 0, 1) := by decide +kernel
theorem dX1_writeThrough_16 : decode cX1_writeThrough 16 = .ok (.getfield 12, 3) := by decide +kernel
theorem dX1_writeThrough_19 : decode cX1_writeThrough 19 = .ok (.aload_n 0, 1) := by decide +kernel
theorem dX1_writeThrough_20 : decode cX1_writeThrough 20 = .ok (.getfield 12, 3) := by decide +kernel
theorem dX1_writeThrough_23 : decode cX1_writeThrough 23 = .ok (.iload_n 1, 1) := by decide +kernel
theorem dX1_writeThrough_24 : decode cX1_writeThrough 24 = .ok (.invokevirtual 107, 3) := by decide +kernel
theorem dX1_writeThrough_27 : decode cX1_writeThrough 27 = .ok (.iload_n 1, 1) := by decide +kernel
theorem dX1_writeThrough_28 : decode cX1_writeThrough 28 = .ok (.iload_n 2, 1) := by decide +kernel
theorem dX1_writeThrough_29 : decode cX1_writeThrough 29 = .ok (.aload_n 0, 1) := by decide +kernel
theorem dX1_writeThrough_30 : decode cX1_writeThrough 30 = .ok (.getfield 45, 3) := by decide +kernel
theorem dX1_writeThrough_33 : decode cX1_writeThrough 33 = .ok (.iconst 0, 1) := by decide +kernel
theorem dX1_writeThrough_34 : decode cX1_writeThrough 34 = .ok (.invokevirtual 95, 3) := by decide +kernel
theorem dX1_writeThrough_37 : decode cX1_writeThrough 37 = .ok (.aload_n 0, 1) := by decide +kernel
theorem dX1_writeThrough_38 : decode cX1_writeThrough 38 = .ok (.getfield 28, 3) := by decide +kernel
theorem dX1_writeThrough_41 : decode cX1_writeThrough 41 = .ok (.iconst 3, 1) := by decide +kernel
theorem dX1_writeThrough_42 : decode cX1_writeThrough 42 = .ok (.dup2, 1) := by decide +kernel
theorem dX1_writeThrough_43 : decode cX1_writeThrough 43 = .ok (.iaload, 1) := by decide +kernel
theorem dX1_writeThrough_44 : decode cX1_writeThrough 44 = .ok (.iconst 1, 1) := by decide +kernel
theorem dX1_writeThrough_45 : decode cX1_writeThrough 45 = .ok (.iadd, 1) := by decide +kernel
theorem dX1_writeThrough_46 : decode cX1_writeThrough 46 = .ok (.iastore, 1) := by decide +kernel
theorem dX1_writeThrough_47 : decode cX1_writeThrough 47 = .ok (.return_, 1) := by decide +kernel
set_option maxRecDepth 20000 in
theorem ggX1_readBlock_X2_lineInReach : GoodIn wsX1_readBlock wsX2_lineInReach := goodIn_r _ [8, 9, 10, 11, 12, 7, 13, 14, 39, 40, 41, 42, 43, 44, 45, 46, 47] (by decide +kernel) (by decide +kernel)
set_option maxRecDepth 20000 in
theorem gX1_readBlock_X2_lineInReach : GoodIn wsX1_readBlock (wsV RX1 107 RX2 yX2_lineInReach wsX2_lineInReach) := goodIn_app (goodIn_of _ (by decide +kernel)) ggX1_readBlock_X2_lineInReach
set_option maxRecDepth 20000 in
theorem ggX1_readBlock_X4_isLine : GoodIn wsX1_readBlock wsX4_isLine := goodIn_r _ [17] (by decide +kernel) (by decide +kernel)
set_option maxRecDepth 20000 in
theorem gX1_readBlock_X4_isLine_n83 : GoodIn wsX1_readBlock (wsX4_isLine) := ggX1_readBlock_X4_isLine
set_option maxRecDepth 20000 in
theorem ggX1_readBlock_X2_use : GoodIn wsX1_readBlock wsX2_use := goodIn_r _ [21, 22, 23, 15, 16, 17, 39, 40, 41, 42, 43, 44, 45, 46, 47] (by decide +kernel) (by decide +kernel)
set_option maxRecDepth 20000 in
theorem gX1_readBlock_X2_use : GoodIn wsX1_readBlock (wsV RX1 110 RX2 yX2_use wsX2_use) := goodIn_app (goodIn_of _ (by decide +kernel)) ggX1_readBlock_X2_use
set_option maxRecDepth 20000 in
theorem ggX1_readBlock_X1_diskValueOf : GoodIn wsX1_readBlock wsX1_diskValueOf := goodIn_r _ [28, 29, 30, 16, 31, 32, 33, 34, 35, 36, 37, 38] (by decide +kernel) (by decide +kernel)
set_option maxRecDepth 20000 in
theorem gX1_readBlock_X1_diskValueOf : GoodIn wsX1_readBlock (wsV RX1 116 RX1 yX1_diskValueOf wsX1_diskValueOf) := goodIn_app (goodIn_of _ (by decide +kernel)) ggX1_readBlock_X1_diskValueOf
theorem dX1_readBlock_0 : decode cX1_readBlock 0 = .ok (.aload_n 0, 1) := by decide +kernel
theorem dX1_readBlock_1 : decode cX1_readBlock 1 = .ok (.getfield 12, 3) := by decide +kernel
theorem dX1_readBlock_4 : decode cX1_readBlock 4 = .ok (.iload_n 1, 1) := by decide +kernel
theorem dX1_readBlock_5 : decode cX1_readBlock 5 = .ok (.invokevirtual 107, 3) := by decide +kernel
theorem dX1_readBlock_8 : decode cX1_readBlock 8 = .ok (.istore_n 2, 1) := by decide +kernel
theorem dX1_readBlock_9 : decode cX1_readBlock 9 = .ok (.iload_n 2, 1) := by decide +kernel
theorem dX1_readBlock_10 : decode cX1_readBlock 10 = .ok (.invokestatic 83, 3) := by decide +kernel
theorem dX1_readBlock_13 : decode cX1_readBlock 13 = .ok (.ifCond .eq 31, 3) := by decide +kernel
theorem dX1_readBlock_16 : decode cX1_readBlock 16 = .ok (.aload_n 0, 1) := by decide +kernel
theorem dX1_readBlock_17 : decode cX1_readBlock 17 = .ok (.getfield 28, 3) := by decide +kernel
theorem dX1_readBlock_20 : decode cX1_readBlock 20 = .ok (.iconst 4, 1) := by decide +kernel
theorem dX1_readBlock_21 : decode cX1_readBlock 21 = .ok (.dup2, 1) := by decide +kernel
theorem dX1_readBlock_22 : decode cX1_readBlock 22 = .ok (.iaload, 1) := by decide +kernel
theorem dX1_readBlock_23 : decode cX1_readBlock 23 = .ok (.iconst 1, 1) := by decide +kernel
theorem dX1_readBlock_24 : decode cX1_readBlock 24 = .ok (.iadd, 1) := by decide +kernel
theorem dX1_readBlock_25 : decode cX1_readBlock 25 = .ok (.iastore, 1) := by decide +kernel
theorem dX1_readBlock_26 : decode cX1_readBlock 26 = .ok (.aload_n 0, 1) := by decide +kernel
theorem dX1_readBlock_27 : decode cX1_readBlock 27 = .ok (.getfield 12, 3) := by decide +kernel
theorem dX1_readBlock_30 : decode cX1_readBlock 30 = .ok (.iload_n 2, 1) := by decide +kernel
theorem dX1_readBlock_31 : decode cX1_readBlock 31 = .ok (.invokevirtual 110, 3) := by decide +kernel
theorem dX1_readBlock_34 : decode cX1_readBlock 34 = .ok (.aload_n 0, 1) := by decide +kernel
theorem dX1_readBlock_35 : decode cX1_readBlock 35 = .ok (.getfield 12, 3) := by decide +kernel
theorem dX1_readBlock_38 : decode cX1_readBlock 38 = .ok (.getfield 113, 3) := by decide +kernel
theorem dX1_readBlock_41 : decode cX1_readBlock 41 = .ok (.iload_n 2, 1) := by decide +kernel
theorem dX1_readBlock_42 : decode cX1_readBlock 42 = .ok (.iaload, 1) := by decide +kernel
theorem dX1_readBlock_43 : decode cX1_readBlock 43 = .ok (.ireturn, 1) := by decide +kernel
theorem dX1_readBlock_44 : decode cX1_readBlock 44 = .ok (.aload_n 0, 1) := by decide +kernel
theorem dX1_readBlock_45 : decode cX1_readBlock 45 = .ok (.getfield 28, 3) := by decide +kernel
theorem dX1_readBlock_48 : decode cX1_readBlock 48 = .ok (.iconst 5, 1) := by decide +kernel
theorem dX1_readBlock_49 : decode cX1_readBlock 49 = .ok (.dup2, 1) := by decide +kernel
theorem dX1_readBlock_50 : decode cX1_readBlock 50 = .ok (.iaload, 1) := by decide +kernel
theorem dX1_readBlock_51 : decode cX1_readBlock 51 = .ok (.iconst 1, 1) := by decide +kernel
theorem dX1_readBlock_52 : decode cX1_readBlock 52 = .ok (.iadd, 1) := by decide +kernel
theorem dX1_readBlock_53 : decode cX1_readBlock 53 = .ok (.iastore, 1) := by decide +kernel
theorem dX1_readBlock_54 : decode cX1_readBlock 54 = .ok (.aload_n 0, 1) := by decide +kernel
theorem dX1_readBlock_55 : decode cX1_readBlock 55 = .ok (.getfield 28, 3) := by decide +kernel
theorem dX1_readBlock_58 : decode cX1_readBlock 58 = .ok (.iconst 0, 1) := by decide +kernel
theorem dX1_readBlock_59 : decode cX1_readBlock 59 = .ok (.dup2, 1) := by decide +kernel
theorem dX1_readBlock_60 : decode cX1_readBlock 60 = .ok (.iaload, 1) := by decide +kernel
theorem dX1_readBlock_61 : decode cX1_readBlock 61 = .ok (.iconst 1, 1) := by decide +kernel
theorem dX1_readBlock_62 : decode cX1_readBlock 62 = .ok (.iadd, 1) := by decide +kernel
theorem dX1_readBlock_63 : decode cX1_readBlock 63 = .ok (.iastore, 1) := by decide +kernel
theorem dX1_readBlock_64 : decode cX1_readBlock 64 = .ok (.aload_n 0, 1) := by decide +kernel
theorem dX1_readBlock_65 : decode cX1_readBlock 65 = .ok (.iload_n 1, 1) := by decide +kernel
theorem dX1_readBlock_66 : decode cX1_readBlock 66 = .ok (.invokevirtual 116, 3) := by decide +kernel
theorem dX1_readBlock_69 : decode cX1_readBlock 69 = .ok (.ireturn, 1) := by decide +kernel
set_option maxRecDepth 20000 in
theorem ggX1_destageStripe_X2_isDirtyOf : GoodIn wsX1_destageStripe wsX2_isDirtyOf := goodIn_r _ [11, 12, 13, 14, 15, 16, 41, 42, 43, 44, 45, 46, 47, 48, 49] (by decide +kernel) (by decide +kernel)
set_option maxRecDepth 20000 in
theorem gX1_destageStripe_X2_isDirtyOf : GoodIn wsX1_destageStripe (wsV RX1 119 RX2 yX2_isDirtyOf wsX2_isDirtyOf) := goodIn_app (goodIn_of _ (by decide +kernel)) ggX1_destageStripe_X2_isDirtyOf
set_option maxRecDepth 20000 in
theorem ggX1_destageStripe_X1_putOnDisk : GoodIn wsX1_destageStripe wsX1_putOnDisk := goodIn_r _ [21, 22, 23, 24, 15, 25, 34, 35, 36, 37, 38, 39, 40] (by decide +kernel) (by decide +kernel)
set_option maxRecDepth 20000 in
theorem gX1_destageStripe_X1_putOnDisk : GoodIn wsX1_destageStripe (wsV RX1 99 RX1 yX1_putOnDisk wsX1_putOnDisk) := goodIn_app (goodIn_of _ (by decide +kernel)) ggX1_destageStripe_X1_putOnDisk
set_option maxRecDepth 20000 in
theorem ggX1_destageStripe_X1_countWrittenTogether : GoodIn wsX1_destageStripe wsX1_countWrittenTogether := goodIn_r _ [29, 6, 30, 15, 31, 32, 33, 34, 35, 36, 37, 38, 39, 40] (by decide +kernel) (by decide +kernel)
set_option maxRecDepth 20000 in
theorem gX1_destageStripe_X1_countWrittenTogether : GoodIn wsX1_destageStripe (wsV RX1 103 RX1 yX1_countWrittenTogether wsX1_countWrittenTogether) := goodIn_app (goodIn_of _ (by decide +kernel)) ggX1_destageStripe_X1_countWrittenTogether
theorem dX1_destageStripe_0 : decode cX1_destageStripe 0 = .ok (.iconst 0, 1) := by decide +kernel
theorem dX1_destageStripe_1 : decode cX1_destageStripe 1 = .ok (.istore_n 2, 1) := by decide +kernel
theorem dX1_destageStripe_2 : decode cX1_destageStripe 2 = .ok (.iconst 0, 1) := by decide +kernel
theorem dX1_destageStripe_3 : decode cX1_destageStripe 3 = .ok (.istore_n 3, 1) := by decide +kernel
theorem dX1_destageStripe_4 : decode cX1_destageStripe 4 = .ok (.iload_n 3, 1) := by decide +kernel
theorem dX1_destageStripe_5 : decode cX1_destageStripe 5 = .ok (.bipush 12, 2) := by decide +kernel
theorem dX1_destageStripe_7 : decode cX1_destageStripe 7 = .ok (.if_icmp .ge 65, 3) := by decide +kernel
theorem dX1_destageStripe_10 : decode cX1_destageStripe 10 = .ok (.aload_n 0, 1) := by decide +kernel
theorem dX1_destageStripe_11 : decode cX1_destageStripe 11 = .ok (.getfield 12, 3) := by decide +kernel
theorem dX1_destageStripe_14 : decode cX1_destageStripe 14 = .ok (.iload_n 3, 1) := by decide +kernel
theorem dX1_destageStripe_15 : decode cX1_destageStripe 15 = .ok (.iload_n 1, 1) := by decide +kernel
theorem dX1_destageStripe_16 : decode cX1_destageStripe 16 = .ok (.invokevirtual 119, 3) := by decide +kernel
theorem dX1_destageStripe_19 : decode cX1_destageStripe 19 = .ok (.ifCond .eq 47, 3) := by decide +kernel
theorem dX1_destageStripe_22 : decode cX1_destageStripe 22 = .ok (.aload_n 0, 1) := by decide +kernel
theorem dX1_destageStripe_23 : decode cX1_destageStripe 23 = .ok (.aload_n 0, 1) := by decide +kernel
theorem dX1_destageStripe_24 : decode cX1_destageStripe 24 = .ok (.getfield 12, 3) := by decide +kernel
theorem dX1_destageStripe_27 : decode cX1_destageStripe 27 = .ok (.getfield 123, 3) := by decide +kernel
theorem dX1_destageStripe_30 : decode cX1_destageStripe 30 = .ok (.iload_n 3, 1) := by decide +kernel
theorem dX1_destageStripe_31 : decode cX1_destageStripe 31 = .ok (.iaload, 1) := by decide +kernel
theorem dX1_destageStripe_32 : decode cX1_destageStripe 32 = .ok (.aload_n 0, 1) := by decide +kernel
theorem dX1_destageStripe_33 : decode cX1_destageStripe 33 = .ok (.getfield 12, 3) := by decide +kernel
theorem dX1_destageStripe_36 : decode cX1_destageStripe 36 = .ok (.getfield 113, 3) := by decide +kernel
theorem dX1_destageStripe_39 : decode cX1_destageStripe 39 = .ok (.iload_n 3, 1) := by decide +kernel
theorem dX1_destageStripe_40 : decode cX1_destageStripe 40 = .ok (.iaload, 1) := by decide +kernel
theorem dX1_destageStripe_41 : decode cX1_destageStripe 41 = .ok (.aload_n 0, 1) := by decide +kernel
theorem dX1_destageStripe_42 : decode cX1_destageStripe 42 = .ok (.getfield 12, 3) := by decide +kernel
theorem dX1_destageStripe_45 : decode cX1_destageStripe 45 = .ok (.getfield 126, 3) := by decide +kernel
theorem dX1_destageStripe_48 : decode cX1_destageStripe 48 = .ok (.iload_n 3, 1) := by decide +kernel
theorem dX1_destageStripe_49 : decode cX1_destageStripe 49 = .ok (.iaload, 1) := by decide +kernel
theorem dX1_destageStripe_50 : decode cX1_destageStripe 50 = .ok (.invokevirtual 99, 3) := by decide +kernel
theorem dX1_destageStripe_53 : decode cX1_destageStripe 53 = .ok (.aload_n 0, 1) := by decide +kernel
theorem dX1_destageStripe_54 : decode cX1_destageStripe 54 = .ok (.getfield 12, 3) := by decide +kernel
theorem dX1_destageStripe_57 : decode cX1_destageStripe 57 = .ok (.getfield 129, 3) := by decide +kernel
theorem dX1_destageStripe_60 : decode cX1_destageStripe 60 = .ok (.iload_n 3, 1) := by decide +kernel
theorem dX1_destageStripe_61 : decode cX1_destageStripe 61 = .ok (.iconst 0, 1) := by decide +kernel
theorem dX1_destageStripe_62 : decode cX1_destageStripe 62 = .ok (.bastore, 1) := by decide +kernel
theorem dX1_destageStripe_63 : decode cX1_destageStripe 63 = .ok (.iinc 2 1, 3) := by decide +kernel
theorem dX1_destageStripe_66 : decode cX1_destageStripe 66 = .ok (.iinc 3 1, 3) := by decide +kernel
theorem dX1_destageStripe_69 : decode cX1_destageStripe 69 = .ok (.goto (-65), 3) := by decide +kernel
theorem dX1_destageStripe_72 : decode cX1_destageStripe 72 = .ok (.iload_n 2, 1) := by decide +kernel
theorem dX1_destageStripe_73 : decode cX1_destageStripe 73 = .ok (.ifCond .le 30, 3) := by decide +kernel
theorem dX1_destageStripe_76 : decode cX1_destageStripe 76 = .ok (.aload_n 0, 1) := by decide +kernel
theorem dX1_destageStripe_77 : decode cX1_destageStripe 77 = .ok (.iload_n 2, 1) := by decide +kernel
theorem dX1_destageStripe_78 : decode cX1_destageStripe 78 = .ok (.invokevirtual 103, 3) := by decide +kernel
theorem dX1_destageStripe_81 : decode cX1_destageStripe 81 = .ok (.aload_n 0, 1) := by decide +kernel
theorem dX1_destageStripe_82 : decode cX1_destageStripe 82 = .ok (.getfield 28, 3) := by decide +kernel
theorem dX1_destageStripe_85 : decode cX1_destageStripe 85 = .ok (.bipush 7, 2) := by decide +kernel
theorem dX1_destageStripe_87 : decode cX1_destageStripe 87 = .ok (.dup2, 1) := by decide +kernel
theorem dX1_destageStripe_88 : decode cX1_destageStripe 88 = .ok (.iaload, 1) := by decide +kernel
theorem dX1_destageStripe_89 : decode cX1_destageStripe 89 = .ok (.iconst 1, 1) := by decide +kernel
theorem dX1_destageStripe_90 : decode cX1_destageStripe 90 = .ok (.iadd, 1) := by decide +kernel
theorem dX1_destageStripe_91 : decode cX1_destageStripe 91 = .ok (.iastore, 1) := by decide +kernel
theorem dX1_destageStripe_92 : decode cX1_destageStripe 92 = .ok (.aload_n 0, 1) := by decide +kernel
theorem dX1_destageStripe_93 : decode cX1_destageStripe 93 = .ok (.getfield 28, 3) := by decide +kernel
theorem dX1_destageStripe_96 : decode cX1_destageStripe 96 = .ok (.bipush 8, 2) := by decide +kernel
theorem dX1_destageStripe_98 : decode cX1_destageStripe 98 = .ok (.dup2, 1) := by decide +kernel
theorem dX1_destageStripe_99 : decode cX1_destageStripe 99 = .ok (.iaload, 1) := by decide +kernel
theorem dX1_destageStripe_100 : decode cX1_destageStripe 100 = .ok (.iload_n 2, 1) := by decide +kernel
theorem dX1_destageStripe_101 : decode cX1_destageStripe 101 = .ok (.iadd, 1) := by decide +kernel
theorem dX1_destageStripe_102 : decode cX1_destageStripe 102 = .ok (.iastore, 1) := by decide +kernel
theorem dX1_destageStripe_103 : decode cX1_destageStripe 103 = .ok (.iload_n 2, 1) := by decide +kernel
theorem dX1_destageStripe_104 : decode cX1_destageStripe 104 = .ok (.ireturn, 1) := by decide +kernel
set_option maxRecDepth 20000 in
theorem ggX1_destageStripes_X1_destageStripe : GoodIn wsX1_destageStripes wsX1_destageStripe := goodIn_r _ [5, 6, 7, 8, 9, 10, 11, 12, 13, 14, 15, 16, 17, 18, 19, 20, 21, 22, 23, 24, 4, 25, 26, 27, 28, 29, 30, 31, 32, 33, 34, 35, 36, 37, 38, 39, 40, 41, 42, 43, 44, 45, 46, 47, 48, 49, 50, 51, 52, 53] (by decide +kernel) (by decide +kernel)
set_option maxRecDepth 20000 in
theorem gX1_destageStripes_X1_destageStripe : GoodIn wsX1_destageStripes (wsV RX1 92 RX1 yX1_destageStripe wsX1_destageStripe) := goodIn_app (goodIn_of _ (by decide +kernel)) ggX1_destageStripes_X1_destageStripe
theorem dX1_destageStripes_0 : decode cX1_destageStripes 0 = .ok (.iconst 0, 1) := by decide +kernel
theorem dX1_destageStripes_1 : decode cX1_destageStripes 1 = .ok (.istore_n 1, 1) := by decide +kernel
theorem dX1_destageStripes_2 : decode cX1_destageStripes 2 = .ok (.iconst 0, 1) := by decide +kernel
theorem dX1_destageStripes_3 : decode cX1_destageStripes 3 = .ok (.istore_n 2, 1) := by decide +kernel
theorem dX1_destageStripes_4 : decode cX1_destageStripes 4 = .ok (.iload_n 2, 1) := by decide +kernel
theorem dX1_destageStripes_5 : decode cX1_destageStripes 5 = .ok (.bipush 16, 2) := by decide +kernel
theorem dX1_destageStripes_7 : decode cX1_destageStripes 7 = .ok (.if_icmp .ge 17, 3) := by decide +kernel
theorem dX1_destageStripes_10 : decode cX1_destageStripes 10 = .ok (.iload_n 1, 1) := by decide +kernel
theorem dX1_destageStripes_11 : decode cX1_destageStripes 11 = .ok (.aload_n 0, 1) := by decide +kernel
theorem dX1_destageStripes_12 : decode cX1_destageStripes 12 = .ok (.iload_n 2, 1) := by decide +kernel
theorem dX1_destageStripes_13 : decode cX1_destageStripes 13 = .ok (.invokevirtual 92, 3) := by decide +kernel
theorem dX1_destageStripes_16 : decode cX1_destageStripes 16 = .ok (.iadd, 1) := by decide +kernel
theorem dX1_destageStripes_17 : decode cX1_destageStripes 17 = .ok (.istore_n 1, 1) := by decide +kernel
theorem dX1_destageStripes_18 : decode cX1_destageStripes 18 = .ok (.iinc 2 1, 3) := by decide +kernel
theorem dX1_destageStripes_21 : decode cX1_destageStripes 21 = .ok (.goto (-17), 3) := by decide +kernel
theorem dX1_destageStripes_24 : decode cX1_destageStripes 24 = .ok (.iload_n 1, 1) := by decide +kernel
theorem dX1_destageStripes_25 : decode cX1_destageStripes 25 = .ok (.ireturn, 1) := by decide +kernel
set_option maxRecDepth 20000 in
theorem ggX1_letPass_X1_canDestage : GoodIn wsX1_letPass wsX1_canDestage := goodIn_r _ [7, 8, 1, 9, 41, 42, 43, 44, 45, 46, 47, 48, 49, 50, 51, 52, 53, 54, 55, 56] (by decide +kernel) (by decide +kernel)
set_option maxRecDepth 20000 in
theorem gX1_letPass_X1_canDestage : GoodIn wsX1_letPass (wsV RX1 133 RX1 yX1_canDestage wsX1_canDestage) := goodIn_app (goodIn_of _ (by decide +kernel)) ggX1_letPass_X1_canDestage
set_option maxRecDepth 20000 in
theorem ggX1_letPass_X2_load : GoodIn wsX1_letPass wsX2_load := goodIn_r _ [14, 15, 16, 17, 18, 19, 20, 48, 49, 50, 51, 52, 53, 54, 55, 56] (by decide +kernel) (by decide +kernel)
set_option maxRecDepth 20000 in
theorem gX1_letPass_X2_load : GoodIn wsX1_letPass (wsV RX1 136 RX2 yX2_load wsX2_load) := goodIn_app (goodIn_of _ (by decide +kernel)) ggX1_letPass_X2_load
set_option maxRecDepth 20000 in
theorem ggX1_letPass_X2_drain : GoodIn wsX1_letPass wsX2_drain := goodIn_r _ [24, 15, 25, 26, 19, 27, 28, 29, 30, 13, 31, 32, 33, 34, 35, 36, 37, 38, 39, 40, 48, 49, 50, 51, 52, 53, 54, 55, 56] (by decide +kernel) (by decide +kernel)
set_option maxRecDepth 20000 in
theorem gX1_letPass_X2_drain : GoodIn wsX1_letPass (wsV RX1 139 RX2 yX2_drain wsX2_drain) := goodIn_app (goodIn_of _ (by decide +kernel)) ggX1_letPass_X2_drain
theorem dX1_letPass_0 : decode cX1_letPass 0 = .ok (.iconst 0, 1) := by decide +kernel
theorem dX1_letPass_1 : decode cX1_letPass 1 = .ok (.istore_n 2, 1) := by decide +kernel
theorem dX1_letPass_2 : decode cX1_letPass 2 = .ok (.iload_n 2, 1) := by decide +kernel
theorem dX1_letPass_3 : decode cX1_letPass 3 = .ok (.iload_n 1, 1) := by decide +kernel
theorem dX1_letPass_4 : decode cX1_letPass 4 = .ok (.if_icmp .ge 43, 3) := by decide +kernel
theorem dX1_letPass_7 : decode cX1_letPass 7 = .ok (.aload_n 0, 1) := by decide +kernel
theorem dX1_letPass_8 : decode cX1_letPass 8 = .ok (.invokevirtual 133, 3) := by decide +kernel
theorem dX1_letPass_11 : decode cX1_letPass 11 = .ok (.ifCond .eq 13, 3) := by decide +kernel
theorem dX1_letPass_14 : decode cX1_letPass 14 = .ok (.aload_n 0, 1) := by decide +kernel
theorem dX1_letPass_15 : decode cX1_letPass 15 = .ok (.getfield 12, 3) := by decide +kernel
theorem dX1_letPass_18 : decode cX1_letPass 18 = .ok (.invokevirtual 136, 3) := by decide +kernel
theorem dX1_letPass_21 : decode cX1_letPass 21 = .ok (.goto 20, 3) := by decide +kernel
theorem dX1_letPass_24 : decode cX1_letPass 24 = .ok (.aload_n 0, 1) := by decide +kernel
theorem dX1_letPass_25 : decode cX1_letPass 25 = .ok (.getfield 28, 3) := by decide +kernel
theorem dX1_letPass_28 : decode cX1_letPass 28 = .ok (.bipush 6, 2) := by decide +kernel
theorem dX1_letPass_30 : decode cX1_letPass 30 = .ok (.dup2, 1) := by decide +kernel
theorem dX1_letPass_31 : decode cX1_letPass 31 = .ok (.iaload, 1) := by decide +kernel
theorem dX1_letPass_32 : decode cX1_letPass 32 = .ok (.aload_n 0, 1) := by decide +kernel
theorem dX1_letPass_33 : decode cX1_letPass 33 = .ok (.getfield 12, 3) := by decide +kernel
theorem dX1_letPass_36 : decode cX1_letPass 36 = .ok (.invokevirtual 139, 3) := by decide +kernel
theorem dX1_letPass_39 : decode cX1_letPass 39 = .ok (.iadd, 1) := by decide +kernel
theorem dX1_letPass_40 : decode cX1_letPass 40 = .ok (.iastore, 1) := by decide +kernel
theorem dX1_letPass_41 : decode cX1_letPass 41 = .ok (.iinc 2 1, 3) := by decide +kernel
theorem dX1_letPass_44 : decode cX1_letPass 44 = .ok (.goto (-42), 3) := by decide +kernel
theorem dX1_letPass_47 : decode cX1_letPass 47 = .ok (.return_, 1) := by decide +kernel
set_option maxRecDepth 20000 in
theorem ggX1_switchPower_X1_destageStripes : GoodIn wsX1_switchPower wsX1_destageStripes := goodIn_r _ [9, 10, 11, 12, 8, 13, 2, 14, 15, 16, 17, 18, 19, 20, 21, 22, 23, 24, 25, 26, 27, 28, 29, 30, 31, 32, 33, 34, 35, 36, 37, 38, 39, 40, 41, 42, 43, 44, 45, 46, 47, 48, 49, 50, 51, 52, 53, 54, 55, 56, 57, 58, 59, 60] (by decide +kernel) (by decide +kernel)
set_option maxRecDepth 20000 in
theorem gX1_switchPower_X1_destageStripes : GoodIn wsX1_switchPower (wsV RX1 143 RX1 yX1_destageStripes wsX1_destageStripes) := goodIn_app (goodIn_of _ (by decide +kernel)) ggX1_switchPower_X1_destageStripes
theorem dX1_switchPower_0 : decode cX1_switchPower 0 = .ok (.iload_n 1, 1) := by decide +kernel
theorem dX1_switchPower_1 : decode cX1_switchPower 1 = .ok (.ifCond .eq 14, 3) := by decide +kernel
theorem dX1_switchPower_4 : decode cX1_switchPower 4 = .ok (.aload_n 0, 1) := by decide +kernel
theorem dX1_switchPower_5 : decode cX1_switchPower 5 = .ok (.getfield 31, 3) := by decide +kernel
theorem dX1_switchPower_8 : decode cX1_switchPower 8 = .ok (.ifCond .ne 7, 3) := by decide +kernel
theorem dX1_switchPower_11 : decode cX1_switchPower 11 = .ok (.iconst 1, 1) := by decide +kernel
theorem dX1_switchPower_12 : decode cX1_switchPower 12 = .ok (.goto 4, 3) := by decide +kernel
theorem dX1_switchPower_15 : decode cX1_switchPower 15 = .ok (.iconst 0, 1) := by decide +kernel
theorem dX1_switchPower_16 : decode cX1_switchPower 16 = .ok (.istore_n 2, 1) := by decide +kernel
theorem dX1_switchPower_17 : decode cX1_switchPower 17 = .ok (.aload_n 0, 1) := by decide +kernel
theorem dX1_switchPower_18 : decode cX1_switchPower 18 = .ok (.iload_n 1, 1) := by decide +kernel
theorem dX1_switchPower_19 : decode cX1_switchPower 19 = .ok (.putfield 31, 3) := by decide +kernel
theorem dX1_switchPower_22 : decode cX1_switchPower 22 = .ok (.iload_n 2, 1) := by decide +kernel
theorem dX1_switchPower_23 : decode cX1_switchPower 23 = .ok (.ifCond .eq 30, 3) := by decide +kernel
theorem dX1_switchPower_26 : decode cX1_switchPower 26 = .ok (.aload_n 0, 1) := by decide +kernel
theorem dX1_switchPower_27 : decode cX1_switchPower 27 = .ok (.getfield 12, 3) := by decide +kernel
theorem dX1_switchPower_30 : decode cX1_switchPower 30 = .ok (.getfield 49, 3) := by decide +kernel
theorem dX1_switchPower_33 : decode cX1_switchPower 33 = .ok (.ifCond .eq 20, 3) := by decide +kernel
theorem dX1_switchPower_36 : decode cX1_switchPower 36 = .ok (.aload_n 0, 1) := by decide +kernel
theorem dX1_switchPower_37 : decode cX1_switchPower 37 = .ok (.getfield 12, 3) := by decide +kernel
theorem dX1_switchPower_40 : decode cX1_switchPower 40 = .ok (.getfield 52, 3) := by decide +kernel
theorem dX1_switchPower_43 : decode cX1_switchPower 43 = .ok (.bipush 20, 2) := by decide +kernel
theorem dX1_switchPower_45 : decode cX1_switchPower 45 = .ok (.if_icmp .ge 8, 3) := by decide +kernel
theorem dX1_switchPower_48 : decode cX1_switchPower 48 = .ok (.aload_n 0, 1) := by decide +kernel
theorem dX1_switchPower_49 : decode cX1_switchPower 49 = .ok (.invokevirtual 143, 3) := by decide +kernel
theorem dX1_switchPower_52 : decode cX1_switchPower 52 = .ok (.ireturn, 1) := by decide +kernel
theorem dX1_switchPower_53 : decode cX1_switchPower 53 = .ok (.iconst 0, 1) := by decide +kernel
theorem dX1_switchPower_54 : decode cX1_switchPower 54 = .ok (.ireturn, 1) := by decide +kernel
set_option maxRecDepth 20000 in
theorem ggX1_placeStick_X1_emptyOutdatedLines : GoodIn wsX1_placeStick wsX1_emptyOutdatedLines := goodIn_r _ [7, 1, 8, 9, 10, 11, 12, 13, 14, 15, 16, 17, 18, 19, 20, 21, 22, 23, 24, 25, 26, 27, 28, 29, 30, 31, 32, 33, 34, 35, 36, 37, 38] (by decide +kernel) (by decide +kernel)
set_option maxRecDepth 20000 in
theorem gX1_placeStick_X1_emptyOutdatedLines : GoodIn wsX1_placeStick (wsV RX1 146 RX1 yX1_emptyOutdatedLines wsX1_emptyOutdatedLines) := goodIn_app (goodIn_of _ (by decide +kernel)) ggX1_placeStick_X1_emptyOutdatedLines
theorem dX1_placeStick_0 : decode cX1_placeStick 0 = .ok (.iload_n 1, 1) := by decide +kernel
theorem dX1_placeStick_1 : decode cX1_placeStick 1 = .ok (.ifCond .eq 17, 3) := by decide +kernel
theorem dX1_placeStick_4 : decode cX1_placeStick 4 = .ok (.aload_n 0, 1) := by decide +kernel
theorem dX1_placeStick_5 : decode cX1_placeStick 5 = .ok (.getfield 12, 3) := by decide +kernel
theorem dX1_placeStick_8 : decode cX1_placeStick 8 = .ok (.getfield 49, 3) := by decide +kernel
theorem dX1_placeStick_11 : decode cX1_placeStick 11 = .ok (.ifCond .ne 7, 3) := by decide +kernel
theorem dX1_placeStick_14 : decode cX1_placeStick 14 = .ok (.iconst 1, 1) := by decide +kernel
theorem dX1_placeStick_15 : decode cX1_placeStick 15 = .ok (.goto 4, 3) := by decide +kernel
theorem dX1_placeStick_18 : decode cX1_placeStick 18 = .ok (.iconst 0, 1) := by decide +kernel
theorem dX1_placeStick_19 : decode cX1_placeStick 19 = .ok (.istore_n 2, 1) := by decide +kernel
theorem dX1_placeStick_20 : decode cX1_placeStick 20 = .ok (.aload_n 0, 1) := by decide +kernel
theorem dX1_placeStick_21 : decode cX1_placeStick 21 = .ok (.getfield 12, 3) := by decide +kernel
theorem dX1_placeStick_24 : decode cX1_placeStick 24 = .ok (.iload_n 1, 1) := by decide +kernel
theorem dX1_placeStick_25 : decode cX1_placeStick 25 = .ok (.putfield 49, 3) := by decide +kernel
theorem dX1_placeStick_28 : decode cX1_placeStick 28 = .ok (.iload_n 2, 1) := by decide +kernel
theorem dX1_placeStick_29 : decode cX1_placeStick 29 = .ok (.ifCond .eq 10, 3) := by decide +kernel
theorem dX1_placeStick_32 : decode cX1_placeStick 32 = .ok (.aload_n 0, 1) := by decide +kernel
theorem dX1_placeStick_33 : decode cX1_placeStick 33 = .ok (.invokevirtual 146, 3) := by decide +kernel
theorem dX1_placeStick_36 : decode cX1_placeStick 36 = .ok (.goto 4, 3) := by decide +kernel
theorem dX1_placeStick_39 : decode cX1_placeStick 39 = .ok (.iconst 0, 1) := by decide +kernel
theorem dX1_placeStick_40 : decode cX1_placeStick 40 = .ok (.ireturn, 1) := by decide +kernel
set_option maxRecDepth 20000 in
theorem ggX1_emptyOutdatedLines_X4_isBlock : GoodIn wsX1_emptyOutdatedLines wsX4_isBlock := goodIn_r _ [7] (by decide +kernel) (by decide +kernel)
set_option maxRecDepth 20000 in
theorem gX1_emptyOutdatedLines_X4_isBlock_n55 : GoodIn wsX1_emptyOutdatedLines (wsX4_isBlock) := ggX1_emptyOutdatedLines_X4_isBlock
set_option maxRecDepth 20000 in
theorem ggX1_emptyOutdatedLines_X2_empty : GoodIn wsX1_emptyOutdatedLines wsX2_empty := goodIn_r _ [12, 13, 14, 15, 6, 16, 24, 25, 26, 27, 28, 29, 30, 31, 32] (by decide +kernel) (by decide +kernel)
set_option maxRecDepth 20000 in
theorem gX1_emptyOutdatedLines_X2_empty : GoodIn wsX1_emptyOutdatedLines (wsV RX1 149 RX2 yX2_empty wsX2_empty) := goodIn_app (goodIn_of _ (by decide +kernel)) ggX1_emptyOutdatedLines_X2_empty
theorem dX1_emptyOutdatedLines_0 : decode cX1_emptyOutdatedLines 0 = .ok (.iconst 0, 1) := by decide +kernel
theorem dX1_emptyOutdatedLines_1 : decode cX1_emptyOutdatedLines 1 = .ok (.istore_n 1, 1) := by decide +kernel
theorem dX1_emptyOutdatedLines_2 : decode cX1_emptyOutdatedLines 2 = .ok (.iconst 0, 1) := by decide +kernel
theorem dX1_emptyOutdatedLines_3 : decode cX1_emptyOutdatedLines 3 = .ok (.istore_n 2, 1) := by decide +kernel
theorem dX1_emptyOutdatedLines_4 : decode cX1_emptyOutdatedLines 4 = .ok (.iload_n 2, 1) := by decide +kernel
theorem dX1_emptyOutdatedLines_5 : decode cX1_emptyOutdatedLines 5 = .ok (.bipush 12, 2) := by decide +kernel
theorem dX1_emptyOutdatedLines_7 : decode cX1_emptyOutdatedLines 7 = .ok (.if_icmp .ge 55, 3) := by decide +kernel
theorem dX1_emptyOutdatedLines_10 : decode cX1_emptyOutdatedLines 10 = .ok (.aload_n 0, 1) := by decide +kernel
theorem dX1_emptyOutdatedLines_11 : decode cX1_emptyOutdatedLines 11 = .ok (.getfield 12, 3) := by decide +kernel
theorem dX1_emptyOutdatedLines_14 : decode cX1_emptyOutdatedLines 14 = .ok (.getfield 123, 3) := by decide +kernel
theorem dX1_emptyOutdatedLines_17 : decode cX1_emptyOutdatedLines 17 = .ok (.iload_n 2, 1) := by decide +kernel
theorem dX1_emptyOutdatedLines_18 : decode cX1_emptyOutdatedLines 18 = .ok (.iaload, 1) := by decide +kernel
theorem dX1_emptyOutdatedLines_19 : decode cX1_emptyOutdatedLines 19 = .ok (.istore_n 3, 1) := by decide +kernel
theorem dX1_emptyOutdatedLines_20 : decode cX1_emptyOutdatedLines 20 = .ok (.iload_n 3, 1) := by decide +kernel
theorem dX1_emptyOutdatedLines_21 : decode cX1_emptyOutdatedLines 21 = .ok (.invokestatic 55, 3) := by decide +kernel
theorem dX1_emptyOutdatedLines_24 : decode cX1_emptyOutdatedLines 24 = .ok (.ifCond .eq 32, 3) := by decide +kernel
theorem dX1_emptyOutdatedLines_27 : decode cX1_emptyOutdatedLines 27 = .ok (.aload_n 0, 1) := by decide +kernel
theorem dX1_emptyOutdatedLines_28 : decode cX1_emptyOutdatedLines 28 = .ok (.getfield 12, 3) := by decide +kernel
theorem dX1_emptyOutdatedLines_31 : decode cX1_emptyOutdatedLines 31 = .ok (.getfield 126, 3) := by decide +kernel
theorem dX1_emptyOutdatedLines_34 : decode cX1_emptyOutdatedLines 34 = .ok (.iload_n 2, 1) := by decide +kernel
theorem dX1_emptyOutdatedLines_35 : decode cX1_emptyOutdatedLines 35 = .ok (.iaload, 1) := by decide +kernel
theorem dX1_emptyOutdatedLines_36 : decode cX1_emptyOutdatedLines 36 = .ok (.aload_n 0, 1) := by decide +kernel
theorem dX1_emptyOutdatedLines_37 : decode cX1_emptyOutdatedLines 37 = .ok (.getfield 22, 3) := by decide +kernel
theorem dX1_emptyOutdatedLines_40 : decode cX1_emptyOutdatedLines 40 = .ok (.iload_n 3, 1) := by decide +kernel
theorem dX1_emptyOutdatedLines_41 : decode cX1_emptyOutdatedLines 41 = .ok (.iaload, 1) := by decide +kernel
theorem dX1_emptyOutdatedLines_42 : decode cX1_emptyOutdatedLines 42 = .ok (.if_icmp .ge 14, 3) := by decide +kernel
theorem dX1_emptyOutdatedLines_45 : decode cX1_emptyOutdatedLines 45 = .ok (.aload_n 0, 1) := by decide +kernel
theorem dX1_emptyOutdatedLines_46 : decode cX1_emptyOutdatedLines 46 = .ok (.getfield 12, 3) := by decide +kernel
theorem dX1_emptyOutdatedLines_49 : decode cX1_emptyOutdatedLines 49 = .ok (.iload_n 2, 1) := by decide +kernel
theorem dX1_emptyOutdatedLines_50 : decode cX1_emptyOutdatedLines 50 = .ok (.invokevirtual 149, 3) := by decide +kernel
theorem dX1_emptyOutdatedLines_53 : decode cX1_emptyOutdatedLines 53 = .ok (.iinc 1 1, 3) := by decide +kernel
theorem dX1_emptyOutdatedLines_56 : decode cX1_emptyOutdatedLines 56 = .ok (.iinc 2 1, 3) := by decide +kernel
theorem dX1_emptyOutdatedLines_59 : decode cX1_emptyOutdatedLines 59 = .ok (.goto (-55), 3) := by decide +kernel
theorem dX1_emptyOutdatedLines_62 : decode cX1_emptyOutdatedLines 62 = .ok (.iload_n 1, 1) := by decide +kernel
theorem dX1_emptyOutdatedLines_63 : decode cX1_emptyOutdatedLines 63 = .ok (.ireturn, 1) := by decide +kernel
set_option maxRecDepth 20000 in
theorem ggX1_finds_X4_isBlock : GoodIn wsX1_finds wsX4_isBlock := goodIn_r _ [7] (by decide +kernel) (by decide +kernel)
set_option maxRecDepth 20000 in
theorem gX1_finds_X4_isBlock_n55 : GoodIn wsX1_finds (wsX4_isBlock) := ggX1_finds_X4_isBlock
set_option maxRecDepth 20000 in
theorem ggX1_finds_X2_lineInReach : GoodIn wsX1_finds wsX2_lineInReach := goodIn_r _ [12, 13, 14, 15, 16, 11, 17, 18, 28, 29, 30, 31, 32, 33, 34, 35, 36] (by decide +kernel) (by decide +kernel)
set_option maxRecDepth 20000 in
theorem gX1_finds_X2_lineInReach : GoodIn wsX1_finds (wsV RX1 107 RX2 yX2_lineInReach wsX2_lineInReach) := goodIn_app (goodIn_of _ (by decide +kernel)) ggX1_finds_X2_lineInReach
set_option maxRecDepth 20000 in
theorem ggX1_finds_X4_isLine : GoodIn wsX1_finds wsX4_isLine := goodIn_r _ [20] (by decide +kernel) (by decide +kernel)
set_option maxRecDepth 20000 in
theorem gX1_finds_X4_isLine_n83 : GoodIn wsX1_finds (wsX4_isLine) := ggX1_finds_X4_isLine
theorem dX1_finds_0 : decode cX1_finds 0 = .ok (.iload_n 1, 1) := by decide +kernel
theorem dX1_finds_1 : decode cX1_finds 1 = .ok (.invokestatic 55, 3) := by decide +kernel
theorem dX1_finds_4 : decode cX1_finds 4 = .ok (.ifCond .ne 5, 3) := by decide +kernel
theorem dX1_finds_7 : decode cX1_finds 7 = .ok (.iconst 0, 1) := by decide +kernel
theorem dX1_finds_8 : decode cX1_finds 8 = .ok (.ireturn, 1) := by decide +kernel
theorem dX1_finds_9 : decode cX1_finds 9 = .ok (.aload_n 0, 1) := by decide +kernel
theorem dX1_finds_10 : decode cX1_finds 10 = .ok (.getfield 22, 3) := by decide +kernel
theorem dX1_finds_13 : decode cX1_finds 13 = .ok (.iload_n 1, 1) := by decide +kernel
theorem dX1_finds_14 : decode cX1_finds 14 = .ok (.iaload, 1) := by decide +kernel
theorem dX1_finds_15 : decode cX1_finds 15 = .ok (.aload_n 0, 1) := by decide +kernel
theorem dX1_finds_16 : decode cX1_finds 16 = .ok (.getfield 25, 3) := by decide +kernel
theorem dX1_finds_19 : decode cX1_finds 19 = .ok (.iload_n 1, 1) := by decide +kernel
theorem dX1_finds_20 : decode cX1_finds 20 = .ok (.iaload, 1) := by decide +kernel
theorem dX1_finds_21 : decode cX1_finds 21 = .ok (.if_icmp .ne 5, 3) := by decide +kernel
theorem dX1_finds_24 : decode cX1_finds 24 = .ok (.iconst 1, 1) := by decide +kernel
theorem dX1_finds_25 : decode cX1_finds 25 = .ok (.ireturn, 1) := by decide +kernel
theorem dX1_finds_26 : decode cX1_finds 26 = .ok (.aload_n 0, 1) := by decide +kernel
theorem dX1_finds_27 : decode cX1_finds 27 = .ok (.getfield 12, 3) := by decide +kernel
theorem dX1_finds_30 : decode cX1_finds 30 = .ok (.iload_n 1, 1) := by decide +kernel
theorem dX1_finds_31 : decode cX1_finds 31 = .ok (.invokevirtual 107, 3) := by decide +kernel
theorem dX1_finds_34 : decode cX1_finds 34 = .ok (.istore_n 2, 1) := by decide +kernel
theorem dX1_finds_35 : decode cX1_finds 35 = .ok (.iload_n 2, 1) := by decide +kernel
theorem dX1_finds_36 : decode cX1_finds 36 = .ok (.invokestatic 83, 3) := by decide +kernel
theorem dX1_finds_39 : decode cX1_finds 39 = .ok (.ifCond .eq 25, 3) := by decide +kernel
theorem dX1_finds_42 : decode cX1_finds 42 = .ok (.aload_n 0, 1) := by decide +kernel
theorem dX1_finds_43 : decode cX1_finds 43 = .ok (.getfield 12, 3) := by decide +kernel
theorem dX1_finds_46 : decode cX1_finds 46 = .ok (.getfield 126, 3) := by decide +kernel
theorem dX1_finds_49 : decode cX1_finds 49 = .ok (.iload_n 2, 1) := by decide +kernel
theorem dX1_finds_50 : decode cX1_finds 50 = .ok (.iaload, 1) := by decide +kernel
theorem dX1_finds_51 : decode cX1_finds 51 = .ok (.aload_n 0, 1) := by decide +kernel
theorem dX1_finds_52 : decode cX1_finds 52 = .ok (.getfield 25, 3) := by decide +kernel
theorem dX1_finds_55 : decode cX1_finds 55 = .ok (.iload_n 1, 1) := by decide +kernel
theorem dX1_finds_56 : decode cX1_finds 56 = .ok (.iaload, 1) := by decide +kernel
theorem dX1_finds_57 : decode cX1_finds 57 = .ok (.if_icmp .ne 7, 3) := by decide +kernel
theorem dX1_finds_60 : decode cX1_finds 60 = .ok (.iconst 1, 1) := by decide +kernel
theorem dX1_finds_61 : decode cX1_finds 61 = .ok (.goto 4, 3) := by decide +kernel
theorem dX1_finds_64 : decode cX1_finds 64 = .ok (.iconst 0, 1) := by decide +kernel
theorem dX1_finds_65 : decode cX1_finds 65 = .ok (.ireturn, 1) := by decide +kernel
set_option maxRecDepth 20000 in
theorem ggX1_operationsIfWritten_X1_gathers : GoodIn wsX1_operationsIfWritten wsX1_gathers := goodIn_r _ [6, 1, 7, 8, 47, 48, 49, 50, 51, 52, 53, 54, 55, 56, 57, 58, 59, 60, 61, 62] (by decide +kernel) (by decide +kernel)
set_option maxRecDepth 20000 in
theorem gX1_operationsIfWritten_X1_gathers : GoodIn wsX1_operationsIfWritten (wsV RX1 66 RX1 yX1_gathers wsX1_gathers) := goodIn_app (goodIn_of _ (by decide +kernel)) ggX1_operationsIfWritten_X1_gathers
set_option maxRecDepth 20000 in
theorem ggX1_operationsIfWritten_X4_operationsToWrite : GoodIn wsX1_operationsIfWritten wsX4_operationsToWrite := goodIn_r _ [11, 12, 13, 10, 14, 15, 16, 17] (by decide +kernel) (by decide +kernel)
set_option maxRecDepth 20000 in
theorem gX1_operationsIfWritten_X4_operationsToWrite_n152 : GoodIn wsX1_operationsIfWritten (wsX4_operationsToWrite) := ggX1_operationsIfWritten_X4_operationsToWrite
set_option maxRecDepth 20000 in
theorem ggX1_operationsIfWritten_X4_stripeOf : GoodIn wsX1_operationsIfWritten wsX4_stripeOf := goodIn_r _ [19] (by decide +kernel) (by decide +kernel)
set_option maxRecDepth 20000 in
theorem gX1_operationsIfWritten_X4_stripeOf_n77 : GoodIn wsX1_operationsIfWritten (wsX4_stripeOf) := ggX1_operationsIfWritten_X4_stripeOf
set_option maxRecDepth 20000 in
theorem ggX1_operationsIfWritten_X2_lineOf : GoodIn wsX1_operationsIfWritten wsX2_lineOf := goodIn_r _ [24, 25, 54, 55, 56, 57, 58, 59, 60, 61, 62] (by decide +kernel) (by decide +kernel)
set_option maxRecDepth 20000 in
theorem gX1_operationsIfWritten_X2_lineOf : GoodIn wsX1_operationsIfWritten (wsV RX1 80 RX2 yX2_lineOf wsX2_lineOf) := goodIn_app (goodIn_of _ (by decide +kernel)) ggX1_operationsIfWritten_X2_lineOf
set_option maxRecDepth 20000 in
theorem ggX1_operationsIfWritten_X4_isLine : GoodIn wsX1_operationsIfWritten wsX4_isLine := goodIn_r _ [27] (by decide +kernel) (by decide +kernel)
set_option maxRecDepth 20000 in
theorem gX1_operationsIfWritten_X4_isLine_n83 : GoodIn wsX1_operationsIfWritten (wsX4_isLine) := ggX1_operationsIfWritten_X4_isLine
set_option maxRecDepth 20000 in
theorem ggX1_operationsIfWritten_X2_freeLine : GoodIn wsX1_operationsIfWritten wsX2_freeLine := goodIn_r _ [31, 32, 25, 33, 54, 55, 56, 57, 58, 59, 60, 61, 62] (by decide +kernel) (by decide +kernel)
set_option maxRecDepth 20000 in
theorem gX1_operationsIfWritten_X2_freeLine : GoodIn wsX1_operationsIfWritten (wsV RX1 86 RX2 yX2_freeLine wsX2_freeLine) := goodIn_app (goodIn_of _ (by decide +kernel)) ggX1_operationsIfWritten_X2_freeLine
set_option maxRecDepth 20000 in
theorem ggX1_operationsIfWritten_X2_fullestStripe : GoodIn wsX1_operationsIfWritten wsX2_fullestStripe := goodIn_r _ [37, 38, 39, 40, 23, 41, 42, 43, 44, 45, 32, 25, 18, 10, 19, 54, 55, 56, 57, 58, 59, 60, 61, 62] (by decide +kernel) (by decide +kernel)
set_option maxRecDepth 20000 in
theorem gX1_operationsIfWritten_X2_fullestStripe : GoodIn wsX1_operationsIfWritten (wsV RX1 89 RX2 yX2_fullestStripe wsX2_fullestStripe) := goodIn_app (goodIn_of _ (by decide +kernel)) ggX1_operationsIfWritten_X2_fullestStripe
set_option maxRecDepth 20000 in
theorem ggX1_operationsIfWritten_X2_dirtyLinesOf : GoodIn wsX1_operationsIfWritten wsX2_dirtyLinesOf := goodIn_r _ [41, 42, 43, 44, 23, 45, 32, 25, 18, 10, 19, 54, 55, 56, 57, 58, 59, 60, 61, 62] (by decide +kernel) (by decide +kernel)
set_option maxRecDepth 20000 in
theorem gX1_operationsIfWritten_X2_dirtyLinesOf : GoodIn wsX1_operationsIfWritten (wsV RX1 155 RX2 yX2_dirtyLinesOf wsX2_dirtyLinesOf) := goodIn_app (goodIn_of _ (by decide +kernel)) ggX1_operationsIfWritten_X2_dirtyLinesOf
theorem dX1_operationsIfWritten_0 : decode cX1_operationsIfWritten 0 = .ok (.aload_n 0, 1) := by decide +kernel
theorem dX1_operationsIfWritten_1 : decode cX1_operationsIfWritten 1 = .ok (.invokevirtual 66, 3) := by decide +kernel
theorem dX1_operationsIfWritten_4 : decode cX1_operationsIfWritten 4 = .ok (.ifCond .ne 8, 3) := by decide +kernel
theorem dX1_operationsIfWritten_7 : decode cX1_operationsIfWritten 7 = .ok (.iconst 1, 1) := by decide +kernel
theorem dX1_operationsIfWritten_8 : decode cX1_operationsIfWritten 8 = .ok (.invokestatic 152, 3) := by decide +kernel
theorem dX1_operationsIfWritten_11 : decode cX1_operationsIfWritten 11 = .ok (.ireturn, 1) := by decide +kernel
theorem dX1_operationsIfWritten_12 : decode cX1_operationsIfWritten 12 = .ok (.iload_n 1, 1) := by decide +kernel
theorem dX1_operationsIfWritten_13 : decode cX1_operationsIfWritten 13 = .ok (.invokestatic 77, 3) := by decide +kernel
theorem dX1_operationsIfWritten_16 : decode cX1_operationsIfWritten 16 = .ok (.iconst 4, 1) := by decide +kernel
theorem dX1_operationsIfWritten_17 : decode cX1_operationsIfWritten 17 = .ok (.irem, 1) := by decide +kernel
theorem dX1_operationsIfWritten_18 : decode cX1_operationsIfWritten 18 = .ok (.istore_n 2, 1) := by decide +kernel
theorem dX1_operationsIfWritten_19 : decode cX1_operationsIfWritten 19 = .ok (.aload_n 0, 1) := by decide +kernel
theorem dX1_operationsIfWritten_20 : decode cX1_operationsIfWritten 20 = .ok (.getfield 12, 3) := by decide +kernel
theorem dX1_operationsIfWritten_23 : decode cX1_operationsIfWritten 23 = .ok (.iload_n 1, 1) := by decide +kernel
theorem dX1_operationsIfWritten_24 : decode cX1_operationsIfWritten 24 = .ok (.invokevirtual 80, 3) := by decide +kernel
theorem dX1_operationsIfWritten_27 : decode cX1_operationsIfWritten 27 = .ok (.invokestatic 83, 3) := by decide +kernel
theorem dX1_operationsIfWritten_30 : decode cX1_operationsIfWritten 30 = .ok (.ifCond .ne 17, 3) := by decide +kernel
theorem dX1_operationsIfWritten_33 : decode cX1_operationsIfWritten 33 = .ok (.aload_n 0, 1) := by decide +kernel
theorem dX1_operationsIfWritten_34 : decode cX1_operationsIfWritten 34 = .ok (.getfield 12, 3) := by decide +kernel
theorem dX1_operationsIfWritten_37 : decode cX1_operationsIfWritten 37 = .ok (.iload_n 2, 1) := by decide +kernel
theorem dX1_operationsIfWritten_38 : decode cX1_operationsIfWritten 38 = .ok (.invokevirtual 86, 3) := by decide +kernel
theorem dX1_operationsIfWritten_41 : decode cX1_operationsIfWritten 41 = .ok (.invokestatic 83, 3) := by decide +kernel
theorem dX1_operationsIfWritten_44 : decode cX1_operationsIfWritten 44 = .ok (.ifCond .eq 5, 3) := by decide +kernel
theorem dX1_operationsIfWritten_47 : decode cX1_operationsIfWritten 47 = .ok (.iconst 0, 1) := by decide +kernel
theorem dX1_operationsIfWritten_48 : decode cX1_operationsIfWritten 48 = .ok (.ireturn, 1) := by decide +kernel
theorem dX1_operationsIfWritten_49 : decode cX1_operationsIfWritten 49 = .ok (.aload_n 0, 1) := by decide +kernel
theorem dX1_operationsIfWritten_50 : decode cX1_operationsIfWritten 50 = .ok (.getfield 12, 3) := by decide +kernel
theorem dX1_operationsIfWritten_53 : decode cX1_operationsIfWritten 53 = .ok (.aload_n 0, 1) := by decide +kernel
theorem dX1_operationsIfWritten_54 : decode cX1_operationsIfWritten 54 = .ok (.getfield 12, 3) := by decide +kernel
theorem dX1_operationsIfWritten_57 : decode cX1_operationsIfWritten 57 = .ok (.iload_n 2, 1) := by decide +kernel
theorem dX1_operationsIfWritten_58 : decode cX1_operationsIfWritten 58 = .ok (.invokevirtual 89, 3) := by decide +kernel
theorem dX1_operationsIfWritten_61 : decode cX1_operationsIfWritten 61 = .ok (.invokevirtual 155, 3) := by decide +kernel
theorem dX1_operationsIfWritten_64 : decode cX1_operationsIfWritten 64 = .ok (.invokestatic 152, 3) := by decide +kernel
theorem dX1_operationsIfWritten_67 : decode cX1_operationsIfWritten 67 = .ok (.ireturn, 1) := by decide +kernel
set_option maxRecDepth 20000 in
theorem ggX1_operationsIfDestaged_X2_dirtyLinesOf : GoodIn wsX1_operationsIfDestaged wsX2_dirtyLinesOf := goodIn_r _ [6, 7, 8, 9, 5, 10, 11, 12, 13, 14, 15, 31, 32, 33, 34, 35, 36, 37, 38, 39] (by decide +kernel) (by decide +kernel)
set_option maxRecDepth 20000 in
theorem gX1_operationsIfDestaged_X2_dirtyLinesOf : GoodIn wsX1_operationsIfDestaged (wsV RX1 155 RX2 yX2_dirtyLinesOf wsX2_dirtyLinesOf) := goodIn_app (goodIn_of _ (by decide +kernel)) ggX1_operationsIfDestaged_X2_dirtyLinesOf
set_option maxRecDepth 20000 in
theorem ggX1_operationsIfDestaged_X4_operationsToWrite : GoodIn wsX1_operationsIfDestaged wsX4_operationsToWrite := goodIn_r _ [17, 18, 19, 14, 20, 21, 22, 23] (by decide +kernel) (by decide +kernel)
set_option maxRecDepth 20000 in
theorem gX1_operationsIfDestaged_X4_operationsToWrite_n152 : GoodIn wsX1_operationsIfDestaged (wsX4_operationsToWrite) := ggX1_operationsIfDestaged_X4_operationsToWrite
theorem dX1_operationsIfDestaged_0 : decode cX1_operationsIfDestaged 0 = .ok (.iconst 0, 1) := by decide +kernel
theorem dX1_operationsIfDestaged_1 : decode cX1_operationsIfDestaged 1 = .ok (.istore_n 1, 1) := by decide +kernel
theorem dX1_operationsIfDestaged_2 : decode cX1_operationsIfDestaged 2 = .ok (.iconst 0, 1) := by decide +kernel
theorem dX1_operationsIfDestaged_3 : decode cX1_operationsIfDestaged 3 = .ok (.istore_n 2, 1) := by decide +kernel
theorem dX1_operationsIfDestaged_4 : decode cX1_operationsIfDestaged 4 = .ok (.iload_n 2, 1) := by decide +kernel
theorem dX1_operationsIfDestaged_5 : decode cX1_operationsIfDestaged 5 = .ok (.bipush 16, 2) := by decide +kernel
theorem dX1_operationsIfDestaged_7 : decode cX1_operationsIfDestaged 7 = .ok (.if_icmp .ge 23, 3) := by decide +kernel
theorem dX1_operationsIfDestaged_10 : decode cX1_operationsIfDestaged 10 = .ok (.iload_n 1, 1) := by decide +kernel
theorem dX1_operationsIfDestaged_11 : decode cX1_operationsIfDestaged 11 = .ok (.aload_n 0, 1) := by decide +kernel
theorem dX1_operationsIfDestaged_12 : decode cX1_operationsIfDestaged 12 = .ok (.getfield 12, 3) := by decide +kernel
theorem dX1_operationsIfDestaged_15 : decode cX1_operationsIfDestaged 15 = .ok (.iload_n 2, 1) := by decide +kernel
theorem dX1_operationsIfDestaged_16 : decode cX1_operationsIfDestaged 16 = .ok (.invokevirtual 155, 3) := by decide +kernel
theorem dX1_operationsIfDestaged_19 : decode cX1_operationsIfDestaged 19 = .ok (.invokestatic 152, 3) := by decide +kernel
theorem dX1_operationsIfDestaged_22 : decode cX1_operationsIfDestaged 22 = .ok (.iadd, 1) := by decide +kernel
theorem dX1_operationsIfDestaged_23 : decode cX1_operationsIfDestaged 23 = .ok (.istore_n 1, 1) := by decide +kernel
theorem dX1_operationsIfDestaged_24 : decode cX1_operationsIfDestaged 24 = .ok (.iinc 2 1, 3) := by decide +kernel
theorem dX1_operationsIfDestaged_27 : decode cX1_operationsIfDestaged 27 = .ok (.goto (-23), 3) := by decide +kernel
theorem dX1_operationsIfDestaged_30 : decode cX1_operationsIfDestaged 30 = .ok (.iload_n 1, 1) := by decide +kernel
theorem dX1_operationsIfDestaged_31 : decode cX1_operationsIfDestaged 31 = .ok (.ireturn, 1) := by decide +kernel
theorem dX2_init_0 : decode cX2_init 0 = .ok (.aload_n 0, 1) := by decide +kernel
theorem dX2_init_1 : decode cX2_init 1 = .ok (.invokespecial 3, 3) := by decide +kernel
theorem dX2_init_4 : decode cX2_init 4 = .ok (.aload_n 0, 1) := by decide +kernel
theorem dX2_init_5 : decode cX2_init 5 = .ok (.bipush 12, 2) := by decide +kernel
theorem dX2_init_7 : decode cX2_init 7 = .ok (.newarray .int, 2) := by decide +kernel
theorem dX2_init_9 : decode cX2_init 9 = .ok (.putfield 9, 3) := by decide +kernel
theorem dX2_init_12 : decode cX2_init 12 = .ok (.aload_n 0, 1) := by decide +kernel
theorem dX2_init_13 : decode cX2_init 13 = .ok (.bipush 12, 2) := by decide +kernel
theorem dX2_init_15 : decode cX2_init 15 = .ok (.newarray .int, 2) := by decide +kernel
theorem dX2_init_17 : decode cX2_init 17 = .ok (.putfield 15, 3) := by decide +kernel
theorem dX2_init_20 : decode cX2_init 20 = .ok (.aload_n 0, 1) := by decide +kernel
theorem dX2_init_21 : decode cX2_init 21 = .ok (.bipush 12, 2) := by decide +kernel
theorem dX2_init_23 : decode cX2_init 23 = .ok (.newarray .int, 2) := by decide +kernel
theorem dX2_init_25 : decode cX2_init 25 = .ok (.putfield 18, 3) := by decide +kernel
theorem dX2_init_28 : decode cX2_init 28 = .ok (.aload_n 0, 1) := by decide +kernel
theorem dX2_init_29 : decode cX2_init 29 = .ok (.bipush 12, 2) := by decide +kernel
theorem dX2_init_31 : decode cX2_init 31 = .ok (.newarray .int, 2) := by decide +kernel
theorem dX2_init_33 : decode cX2_init 33 = .ok (.putfield 21, 3) := by decide +kernel
theorem dX2_init_36 : decode cX2_init 36 = .ok (.aload_n 0, 1) := by decide +kernel
theorem dX2_init_37 : decode cX2_init 37 = .ok (.bipush 12, 2) := by decide +kernel
theorem dX2_init_39 : decode cX2_init 39 = .ok (.newarray .boolean, 2) := by decide +kernel
theorem dX2_init_41 : decode cX2_init 41 = .ok (.putfield 24, 3) := by decide +kernel
theorem dX2_init_44 : decode cX2_init 44 = .ok (.aload_n 0, 1) := by decide +kernel
theorem dX2_init_45 : decode cX2_init 45 = .ok (.bipush 100, 2) := by decide +kernel
theorem dX2_init_47 : decode cX2_init 47 = .ok (.putfield 28, 3) := by decide +kernel
theorem dX2_init_50 : decode cX2_init 50 = .ok (.aload_n 0, 1) := by decide +kernel
theorem dX2_init_51 : decode cX2_init 51 = .ok (.bipush 100, 2) := by decide +kernel
theorem dX2_init_53 : decode cX2_init 53 = .ok (.putfield 32, 3) := by decide +kernel
theorem dX2_init_56 : decode cX2_init 56 = .ok (.aload_n 0, 1) := by decide +kernel
theorem dX2_init_57 : decode cX2_init 57 = .ok (.iconst 1, 1) := by decide +kernel
theorem dX2_init_58 : decode cX2_init 58 = .ok (.putfield 35, 3) := by decide +kernel
theorem dX2_init_61 : decode cX2_init 61 = .ok (.iconst 0, 1) := by decide +kernel
theorem dX2_init_62 : decode cX2_init 62 = .ok (.istore_n 1, 1) := by decide +kernel
theorem dX2_init_63 : decode cX2_init 63 = .ok (.iload_n 1, 1) := by decide +kernel
theorem dX2_init_64 : decode cX2_init 64 = .ok (.bipush 12, 2) := by decide +kernel
theorem dX2_init_66 : decode cX2_init 66 = .ok (.if_icmp .ge 16, 3) := by decide +kernel
theorem dX2_init_69 : decode cX2_init 69 = .ok (.aload_n 0, 1) := by decide +kernel
theorem dX2_init_70 : decode cX2_init 70 = .ok (.getfield 9, 3) := by decide +kernel
theorem dX2_init_73 : decode cX2_init 73 = .ok (.iload_n 1, 1) := by decide +kernel
theorem dX2_init_74 : decode cX2_init 74 = .ok (.iconst (-1), 1) := by decide +kernel
theorem dX2_init_75 : decode cX2_init 75 = .ok (.iastore, 1) := by decide +kernel
theorem dX2_init_76 : decode cX2_init 76 = .ok (.iinc 1 1, 3) := by decide +kernel
theorem dX2_init_79 : decode cX2_init 79 = .ok (.goto (-16), 3) := by decide +kernel
theorem dX2_init_82 : decode cX2_init 82 = .ok (.return_, 1) := by decide +kernel
theorem dX2_copyFrom_0 : decode cX2_copyFrom 0 = .ok (.aload_n 1, 1) := by decide +kernel
theorem dX2_copyFrom_1 : decode cX2_copyFrom 1 = .ok (.getfield 9, 3) := by decide +kernel
theorem dX2_copyFrom_4 : decode cX2_copyFrom 4 = .ok (.iconst 0, 1) := by decide +kernel
theorem dX2_copyFrom_5 : decode cX2_copyFrom 5 = .ok (.aload_n 0, 1) := by decide +kernel
theorem dX2_copyFrom_6 : decode cX2_copyFrom 6 = .ok (.getfield 9, 3) := by decide +kernel
theorem dX2_copyFrom_9 : decode cX2_copyFrom 9 = .ok (.iconst 0, 1) := by decide +kernel
theorem dX2_copyFrom_10 : decode cX2_copyFrom 10 = .ok (.bipush 12, 2) := by decide +kernel
theorem dX2_copyFrom_12 : decode cX2_copyFrom 12 = .ok (.invokestatic 39, 3) := by decide +kernel
theorem dX2_copyFrom_15 : decode cX2_copyFrom 15 = .ok (.aload_n 1, 1) := by decide +kernel
theorem dX2_copyFrom_16 : decode cX2_copyFrom 16 = .ok (.getfield 15, 3) := by decide +kernel
theorem dX2_copyFrom_19 : decode cX2_copyFrom 19 = .ok (.iconst 0, 1) := by decide +kernel
theorem dX2_copyFrom_20 : decode cX2_copyFrom 20 = .ok (.aload_n 0, 1) := by decide +kernel
theorem dX2_copyFrom_21 : decode cX2_copyFrom 21 = .ok (.getfield 15, 3) := by decide +kernel
theorem dX2_copyFrom_24 : decode cX2_copyFrom 24 = .ok (.iconst 0, 1) := by decide +kernel
theorem dX2_copyFrom_25 : decode cX2_copyFrom 25 = .ok (.bipush 12, 2) := by decide +kernel
theorem dX2_copyFrom_27 : decode cX2_copyFrom 27 = .ok (.invokestatic 39, 3) := by decide +kernel
theorem dX2_copyFrom_30 : decode cX2_copyFrom 30 = .ok (.aload_n 1, 1) := by decide +kernel
theorem dX2_copyFrom_31 : decode cX2_copyFrom 31 = .ok (.getfield 18, 3) := by decide +kernel
theorem dX2_copyFrom_34 : decode cX2_copyFrom 34 = .ok (.iconst 0, 1) := by decide +kernel
theorem dX2_copyFrom_35 : decode cX2_copyFrom 35 = .ok (.aload_n 0, 1) := by decide +kernel
theorem dX2_copyFrom_36 : decode cX2_copyFrom 36 = .ok (.getfield 18, 3) := by decide +kernel
theorem dX2_copyFrom_39 : decode cX2_copyFrom 39 = .ok (.iconst 0, 1) := by decide +kernel
theorem dX2_copyFrom_40 : decode cX2_copyFrom 40 = .ok (.bipush 12, 2) := by decide +kernel
theorem dX2_copyFrom_42 : decode cX2_copyFrom 42 = .ok (.invokestatic 39, 3) := by decide +kernel
theorem dX2_copyFrom_45 : decode cX2_copyFrom 45 = .ok (.aload_n 1, 1) := by decide +kernel
theorem dX2_copyFrom_46 : decode cX2_copyFrom 46 = .ok (.getfield 21, 3) := by decide +kernel
theorem dX2_copyFrom_49 : decode cX2_copyFrom 49 = .ok (.iconst 0, 1) := by decide +kernel
theorem dX2_copyFrom_50 : decode cX2_copyFrom 50 = .ok (.aload_n 0, 1) := by decide +kernel
theorem dX2_copyFrom_51 : decode cX2_copyFrom 51 = .ok (.getfield 21, 3) := by decide +kernel
theorem dX2_copyFrom_54 : decode cX2_copyFrom 54 = .ok (.iconst 0, 1) := by decide +kernel
theorem dX2_copyFrom_55 : decode cX2_copyFrom 55 = .ok (.bipush 12, 2) := by decide +kernel
theorem dX2_copyFrom_57 : decode cX2_copyFrom 57 = .ok (.invokestatic 39, 3) := by decide +kernel
theorem dX2_copyFrom_60 : decode cX2_copyFrom 60 = .ok (.iconst 0, 1) := by decide +kernel
theorem dX2_copyFrom_61 : decode cX2_copyFrom 61 = .ok (.istore_n 2, 1) := by decide +kernel
theorem dX2_copyFrom_62 : decode cX2_copyFrom 62 = .ok (.iload_n 2, 1) := by decide +kernel
theorem dX2_copyFrom_63 : decode cX2_copyFrom 63 = .ok (.bipush 12, 2) := by decide +kernel
theorem dX2_copyFrom_65 : decode cX2_copyFrom 65 = .ok (.if_icmp .ge 21, 3) := by decide +kernel
theorem dX2_copyFrom_68 : decode cX2_copyFrom 68 = .ok (.aload_n 0, 1) := by decide +kernel
theorem dX2_copyFrom_69 : decode cX2_copyFrom 69 = .ok (.getfield 24, 3) := by decide +kernel
theorem dX2_copyFrom_72 : decode cX2_copyFrom 72 = .ok (.iload_n 2, 1) := by decide +kernel
theorem dX2_copyFrom_73 : decode cX2_copyFrom 73 = .ok (.aload_n 1, 1) := by decide +kernel
theorem dX2_copyFrom_74 : decode cX2_copyFrom 74 = .ok (.getfield 24, 3) := by decide +kernel
theorem dX2_copyFrom_77 : decode cX2_copyFrom 77 = .ok (.iload_n 2, 1) := by decide +kernel
theorem dX2_copyFrom_78 : decode cX2_copyFrom 78 = .ok (.baload, 1) := by decide +kernel
theorem dX2_copyFrom_79 : decode cX2_copyFrom 79 = .ok (.bastore, 1) := by decide +kernel
theorem dX2_copyFrom_80 : decode cX2_copyFrom 80 = .ok (.iinc 2 1, 3) := by decide +kernel
theorem dX2_copyFrom_83 : decode cX2_copyFrom 83 = .ok (.goto (-21), 3) := by decide +kernel
theorem dX2_copyFrom_86 : decode cX2_copyFrom 86 = .ok (.aload_n 0, 1) := by decide +kernel
theorem dX2_copyFrom_87 : decode cX2_copyFrom 87 = .ok (.aload_n 1, 1) := by decide +kernel
theorem dX2_copyFrom_88 : decode cX2_copyFrom 88 = .ok (.getfield 45, 3) := by decide +kernel
theorem dX2_copyFrom_91 : decode cX2_copyFrom 91 = .ok (.putfield 45, 3) := by decide +kernel
theorem dX2_copyFrom_94 : decode cX2_copyFrom 94 = .ok (.aload_n 0, 1) := by decide +kernel
theorem dX2_copyFrom_95 : decode cX2_copyFrom 95 = .ok (.aload_n 1, 1) := by decide +kernel
theorem dX2_copyFrom_96 : decode cX2_copyFrom 96 = .ok (.getfield 28, 3) := by decide +kernel
theorem dX2_copyFrom_99 : decode cX2_copyFrom 99 = .ok (.putfield 28, 3) := by decide +kernel
theorem dX2_copyFrom_102 : decode cX2_copyFrom 102 = .ok (.aload_n 0, 1) := by decide +kernel
theorem dX2_copyFrom_103 : decode cX2_copyFrom 103 = .ok (.aload_n 1, 1) := by decide +kernel
theorem dX2_copyFrom_104 : decode cX2_copyFrom 104 = .ok (.getfield 32, 3) := by decide +kernel
theorem dX2_copyFrom_107 : decode cX2_copyFrom 107 = .ok (.putfield 32, 3) := by decide +kernel
theorem dX2_copyFrom_110 : decode cX2_copyFrom 110 = .ok (.aload_n 0, 1) := by decide +kernel
theorem dX2_copyFrom_111 : decode cX2_copyFrom 111 = .ok (.aload_n 1, 1) := by decide +kernel
theorem dX2_copyFrom_112 : decode cX2_copyFrom 112 = .ok (.getfield 35, 3) := by decide +kernel
theorem dX2_copyFrom_115 : decode cX2_copyFrom 115 = .ok (.putfield 35, 3) := by decide +kernel
theorem dX2_copyFrom_118 : decode cX2_copyFrom 118 = .ok (.return_, 1) := by decide +kernel
theorem dX2_lineOf_0 : decode cX2_lineOf 0 = .ok (.iconst 0, 1) := by decide +kernel
theorem dX2_lineOf_1 : decode cX2_lineOf 1 = .ok (.istore_n 2, 1) := by decide +kernel
theorem dX2_lineOf_2 : decode cX2_lineOf 2 = .ok (.iload_n 2, 1) := by decide +kernel
theorem dX2_lineOf_3 : decode cX2_lineOf 3 = .ok (.bipush 12, 2) := by decide +kernel
theorem dX2_lineOf_5 : decode cX2_lineOf 5 = .ok (.if_icmp .ge 21, 3) := by decide +kernel
theorem dX2_lineOf_8 : decode cX2_lineOf 8 = .ok (.aload_n 0, 1) := by decide +kernel
theorem dX2_lineOf_9 : decode cX2_lineOf 9 = .ok (.getfield 9, 3) := by decide +kernel
theorem dX2_lineOf_12 : decode cX2_lineOf 12 = .ok (.iload_n 2, 1) := by decide +kernel
theorem dX2_lineOf_13 : decode cX2_lineOf 13 = .ok (.iaload, 1) := by decide +kernel
theorem dX2_lineOf_14 : decode cX2_lineOf 14 = .ok (.iload_n 1, 1) := by decide +kernel
theorem dX2_lineOf_15 : decode cX2_lineOf 15 = .ok (.if_icmp .ne 5, 3) := by decide +kernel
theorem dX2_lineOf_18 : decode cX2_lineOf 18 = .ok (.iload_n 2, 1) := by decide +kernel
theorem dX2_lineOf_19 : decode cX2_lineOf 19 = .ok (.ireturn, 1) := by decide +kernel
theorem dX2_lineOf_20 : decode cX2_lineOf 20 = .ok (.iinc 2 1, 3) := by decide +kernel
theorem dX2_lineOf_23 : decode cX2_lineOf 23 = .ok (.goto (-21), 3) := by decide +kernel
theorem dX2_lineOf_26 : decode cX2_lineOf 26 = .ok (.iconst (-1), 1) := by decide +kernel
theorem dX2_lineOf_27 : decode cX2_lineOf 27 = .ok (.ireturn, 1) := by decide +kernel
set_option maxRecDepth 20000 in
theorem ggX2_lineInReach_X2_lineOf : GoodIn wsX2_lineInReach wsX2_lineOf := goodIn_r _ [6, 7, 8, 9, 10, 11, 12, 13, 14, 15, 16] (by decide +kernel) (by decide +kernel)
set_option maxRecDepth 20000 in
theorem gX2_lineInReach_X2_lineOf : GoodIn wsX2_lineInReach (wsV RX2 48 RX2 yX2_lineOf wsX2_lineOf) := goodIn_app (goodIn_of _ (by decide +kernel)) ggX2_lineInReach_X2_lineOf
theorem dX2_lineInReach_0 : decode cX2_lineInReach 0 = .ok (.aload_n 0, 1) := by decide +kernel
theorem dX2_lineInReach_1 : decode cX2_lineInReach 1 = .ok (.getfield 35, 3) := by decide +kernel
theorem dX2_lineInReach_4 : decode cX2_lineInReach 4 = .ok (.ifCond .eq 11, 3) := by decide +kernel
theorem dX2_lineInReach_7 : decode cX2_lineInReach 7 = .ok (.aload_n 0, 1) := by decide +kernel
theorem dX2_lineInReach_8 : decode cX2_lineInReach 8 = .ok (.iload_n 1, 1) := by decide +kernel
theorem dX2_lineInReach_9 : decode cX2_lineInReach 9 = .ok (.invokevirtual 48, 3) := by decide +kernel
theorem dX2_lineInReach_12 : decode cX2_lineInReach 12 = .ok (.goto 4, 3) := by decide +kernel
theorem dX2_lineInReach_15 : decode cX2_lineInReach 15 = .ok (.iconst (-1), 1) := by decide +kernel
theorem dX2_lineInReach_16 : decode cX2_lineInReach 16 = .ok (.ireturn, 1) := by decide +kernel
theorem dX2_freeLine_0 : decode cX2_freeLine 0 = .ok (.iconst (-1), 1) := by decide +kernel
theorem dX2_freeLine_1 : decode cX2_freeLine 1 = .ok (.istore_n 2, 1) := by decide +kernel
theorem dX2_freeLine_2 : decode cX2_freeLine 2 = .ok (.iconst 0, 1) := by decide +kernel
theorem dX2_freeLine_3 : decode cX2_freeLine 3 = .ok (.istore_n 3, 1) := by decide +kernel
theorem dX2_freeLine_4 : decode cX2_freeLine 4 = .ok (.iconst 0, 1) := by decide +kernel
theorem dX2_freeLine_5 : decode cX2_freeLine 5 = .ok (.istore 4, 2) := by decide +kernel
theorem dX2_freeLine_7 : decode cX2_freeLine 7 = .ok (.iload 4, 2) := by decide +kernel
theorem dX2_freeLine_9 : decode cX2_freeLine 9 = .ok (.bipush 12, 2) := by decide +kernel
theorem dX2_freeLine_11 : decode cX2_freeLine 11 = .ok (.if_icmp .ge 68, 3) := by decide +kernel
theorem dX2_freeLine_14 : decode cX2_freeLine 14 = .ok (.iload 4, 2) := by decide +kernel
theorem dX2_freeLine_16 : decode cX2_freeLine 16 = .ok (.iconst 3, 1) := by decide +kernel
theorem dX2_freeLine_17 : decode cX2_freeLine 17 = .ok (.idiv, 1) := by decide +kernel
theorem dX2_freeLine_18 : decode cX2_freeLine 18 = .ok (.iload_n 1, 1) := by decide +kernel
theorem dX2_freeLine_19 : decode cX2_freeLine 19 = .ok (.if_icmp .ne 54, 3) := by decide +kernel
theorem dX2_freeLine_22 : decode cX2_freeLine 22 = .ok (.aload_n 0, 1) := by decide +kernel
theorem dX2_freeLine_23 : decode cX2_freeLine 23 = .ok (.getfield 24, 3) := by decide +kernel
theorem dX2_freeLine_26 : decode cX2_freeLine 26 = .ok (.iload 4, 2) := by decide +kernel
theorem dX2_freeLine_28 : decode cX2_freeLine 28 = .ok (.baload, 1) := by decide +kernel
theorem dX2_freeLine_29 : decode cX2_freeLine 29 = .ok (.ifCond .ne 44, 3) := by decide +kernel
theorem dX2_freeLine_32 : decode cX2_freeLine 32 = .ok (.aload_n 0, 1) := by decide +kernel
theorem dX2_freeLine_33 : decode cX2_freeLine 33 = .ok (.getfield 9, 3) := by decide +kernel
theorem dX2_freeLine_36 : decode cX2_freeLine 36 = .ok (.iload 4, 2) := by decide +kernel
theorem dX2_freeLine_38 : decode cX2_freeLine 38 = .ok (.iaload, 1) := by decide +kernel
theorem dX2_freeLine_39 : decode cX2_freeLine 39 = .ok (.iconst (-1), 1) := by decide +kernel
theorem dX2_freeLine_40 : decode cX2_freeLine 40 = .ok (.if_icmp .ne 6, 3) := by decide +kernel
theorem dX2_freeLine_43 : decode cX2_freeLine 43 = .ok (.iload 4, 2) := by decide +kernel
theorem dX2_freeLine_45 : decode cX2_freeLine 45 = .ok (.ireturn, 1) := by decide +kernel
theorem dX2_freeLine_46 : decode cX2_freeLine 46 = .ok (.iload_n 2, 1) := by decide +kernel
theorem dX2_freeLine_47 : decode cX2_freeLine 47 = .ok (.iconst (-1), 1) := by decide +kernel
theorem dX2_freeLine_48 : decode cX2_freeLine 48 = .ok (.if_icmp .eq 14, 3) := by decide +kernel
theorem dX2_freeLine_51 : decode cX2_freeLine 51 = .ok (.aload_n 0, 1) := by decide +kernel
theorem dX2_freeLine_52 : decode cX2_freeLine 52 = .ok (.getfield 21, 3) := by decide +kernel
theorem dX2_freeLine_55 : decode cX2_freeLine 55 = .ok (.iload 4, 2) := by decide +kernel
theorem dX2_freeLine_57 : decode cX2_freeLine 57 = .ok (.iaload, 1) := by decide +kernel
theorem dX2_freeLine_58 : decode cX2_freeLine 58 = .ok (.iload_n 3, 1) := by decide +kernel
theorem dX2_freeLine_59 : decode cX2_freeLine 59 = .ok (.if_icmp .ge 14, 3) := by decide +kernel
theorem dX2_freeLine_62 : decode cX2_freeLine 62 = .ok (.iload 4, 2) := by decide +kernel
theorem dX2_freeLine_64 : decode cX2_freeLine 64 = .ok (.istore_n 2, 1) := by decide +kernel
theorem dX2_freeLine_65 : decode cX2_freeLine 65 = .ok (.aload_n 0, 1) := by decide +kernel
theorem dX2_freeLine_66 : decode cX2_freeLine 66 = .ok (.getfield 21, 3) := by decide +kernel
theorem dX2_freeLine_69 : decode cX2_freeLine 69 = .ok (.iload 4, 2) := by decide +kernel
theorem dX2_freeLine_71 : decode cX2_freeLine 71 = .ok (.iaload, 1) := by decide +kernel
theorem dX2_freeLine_72 : decode cX2_freeLine 72 = .ok (.istore_n 3, 1) := by decide +kernel
theorem dX2_freeLine_73 : decode cX2_freeLine 73 = .ok (.iinc 4 1, 3) := by decide +kernel
theorem dX2_freeLine_76 : decode cX2_freeLine 76 = .ok (.goto (-69), 3) := by decide +kernel
theorem dX2_freeLine_79 : decode cX2_freeLine 79 = .ok (.iload_n 2, 1) := by decide +kernel
theorem dX2_freeLine_80 : decode cX2_freeLine 80 = .ok (.ireturn, 1) := by decide +kernel
set_option maxRecDepth 20000 in
theorem ggX2_fullestStripe_X2_dirtyLinesOf : GoodIn wsX2_fullestStripe wsX2_dirtyLinesOf := goodIn_r _ [5, 6, 7, 8, 4, 9, 10, 11, 12, 13, 14, 15, 16, 17, 18, 19, 20, 21, 22, 23] (by decide +kernel) (by decide +kernel)
set_option maxRecDepth 20000 in
theorem gX2_fullestStripe_X2_dirtyLinesOf : GoodIn wsX2_fullestStripe (wsV RX2 52 RX2 yX2_dirtyLinesOf wsX2_dirtyLinesOf) := goodIn_app (goodIn_of _ (by decide +kernel)) ggX2_fullestStripe_X2_dirtyLinesOf
theorem dX2_fullestStripe_0 : decode cX2_fullestStripe 0 = .ok (.iconst (-1), 1) := by decide +kernel
theorem dX2_fullestStripe_1 : decode cX2_fullestStripe 1 = .ok (.istore_n 2, 1) := by decide +kernel
theorem dX2_fullestStripe_2 : decode cX2_fullestStripe 2 = .ok (.iconst 0, 1) := by decide +kernel
theorem dX2_fullestStripe_3 : decode cX2_fullestStripe 3 = .ok (.istore_n 3, 1) := by decide +kernel
theorem dX2_fullestStripe_4 : decode cX2_fullestStripe 4 = .ok (.iconst 0, 1) := by decide +kernel
theorem dX2_fullestStripe_5 : decode cX2_fullestStripe 5 = .ok (.istore 4, 2) := by decide +kernel
theorem dX2_fullestStripe_7 : decode cX2_fullestStripe 7 = .ok (.iload 4, 2) := by decide +kernel
theorem dX2_fullestStripe_9 : decode cX2_fullestStripe 9 = .ok (.bipush 16, 2) := by decide +kernel
theorem dX2_fullestStripe_11 : decode cX2_fullestStripe 11 = .ok (.if_icmp .ge 37, 3) := by decide +kernel
theorem dX2_fullestStripe_14 : decode cX2_fullestStripe 14 = .ok (.iload 4, 2) := by decide +kernel
theorem dX2_fullestStripe_16 : decode cX2_fullestStripe 16 = .ok (.iconst 4, 1) := by decide +kernel
theorem dX2_fullestStripe_17 : decode cX2_fullestStripe 17 = .ok (.irem, 1) := by decide +kernel
theorem dX2_fullestStripe_18 : decode cX2_fullestStripe 18 = .ok (.iload_n 1, 1) := by decide +kernel
theorem dX2_fullestStripe_19 : decode cX2_fullestStripe 19 = .ok (.if_icmp .ne 23, 3) := by decide +kernel
theorem dX2_fullestStripe_22 : decode cX2_fullestStripe 22 = .ok (.aload_n 0, 1) := by decide +kernel
theorem dX2_fullestStripe_23 : decode cX2_fullestStripe 23 = .ok (.iload 4, 2) := by decide +kernel
theorem dX2_fullestStripe_25 : decode cX2_fullestStripe 25 = .ok (.invokevirtual 52, 3) := by decide +kernel
theorem dX2_fullestStripe_28 : decode cX2_fullestStripe 28 = .ok (.iload_n 3, 1) := by decide +kernel
theorem dX2_fullestStripe_29 : decode cX2_fullestStripe 29 = .ok (.if_icmp .le 13, 3) := by decide +kernel
theorem dX2_fullestStripe_32 : decode cX2_fullestStripe 32 = .ok (.iload 4, 2) := by decide +kernel
theorem dX2_fullestStripe_34 : decode cX2_fullestStripe 34 = .ok (.istore_n 2, 1) := by decide +kernel
theorem dX2_fullestStripe_35 : decode cX2_fullestStripe 35 = .ok (.aload_n 0, 1) := by decide +kernel
theorem dX2_fullestStripe_36 : decode cX2_fullestStripe 36 = .ok (.iload 4, 2) := by decide +kernel
theorem dX2_fullestStripe_38 : decode cX2_fullestStripe 38 = .ok (.invokevirtual 52, 3) := by decide +kernel
theorem dX2_fullestStripe_41 : decode cX2_fullestStripe 41 = .ok (.istore_n 3, 1) := by decide +kernel
theorem dX2_fullestStripe_42 : decode cX2_fullestStripe 42 = .ok (.iinc 4 1, 3) := by decide +kernel
theorem dX2_fullestStripe_45 : decode cX2_fullestStripe 45 = .ok (.goto (-38), 3) := by decide +kernel
theorem dX2_fullestStripe_48 : decode cX2_fullestStripe 48 = .ok (.iload_n 2, 1) := by decide +kernel
theorem dX2_fullestStripe_49 : decode cX2_fullestStripe 49 = .ok (.ireturn, 1) := by decide +kernel
set_option maxRecDepth 20000 in
theorem ggX2_fill_X4_isLine : GoodIn wsX2_fill wsX4_isLine := goodIn_r _ [7] (by decide +kernel) (by decide +kernel)
set_option maxRecDepth 20000 in
theorem gX2_fill_X4_isLine_n55 : GoodIn wsX2_fill (wsX4_isLine) := ggX2_fill_X4_isLine
set_option maxRecDepth 20000 in
theorem ggX2_fill_X2_use : GoodIn wsX2_fill wsX2_use := goodIn_r _ [12, 13, 14, 5, 6, 7, 15, 16, 17, 18, 19, 20, 21, 22, 23] (by decide +kernel) (by decide +kernel)
set_option maxRecDepth 20000 in
theorem gX2_fill_X2_use : GoodIn wsX2_fill (wsV RX2 59 RX2 yX2_use wsX2_use) := goodIn_app (goodIn_of _ (by decide +kernel)) ggX2_fill_X2_use
theorem dX2_fill_0 : decode cX2_fill 0 = .ok (.iload_n 1, 1) := by decide +kernel
theorem dX2_fill_1 : decode cX2_fill 1 = .ok (.invokestatic 55, 3) := by decide +kernel
theorem dX2_fill_4 : decode cX2_fill 4 = .ok (.ifCond .eq 38, 3) := by decide +kernel
theorem dX2_fill_7 : decode cX2_fill 7 = .ok (.aload_n 0, 1) := by decide +kernel
theorem dX2_fill_8 : decode cX2_fill 8 = .ok (.getfield 9, 3) := by decide +kernel
theorem dX2_fill_11 : decode cX2_fill 11 = .ok (.iload_n 1, 1) := by decide +kernel
theorem dX2_fill_12 : decode cX2_fill 12 = .ok (.iload_n 2, 1) := by decide +kernel
theorem dX2_fill_13 : decode cX2_fill 13 = .ok (.iastore, 1) := by decide +kernel
theorem dX2_fill_14 : decode cX2_fill 14 = .ok (.aload_n 0, 1) := by decide +kernel
theorem dX2_fill_15 : decode cX2_fill 15 = .ok (.getfield 15, 3) := by decide +kernel
theorem dX2_fill_18 : decode cX2_fill 18 = .ok (.iload_n 1, 1) := by decide +kernel
theorem dX2_fill_19 : decode cX2_fill 19 = .ok (.iload_n 3, 1) := by decide +kernel
theorem dX2_fill_20 : decode cX2_fill 20 = .ok (.iastore, 1) := by decide +kernel
theorem dX2_fill_21 : decode cX2_fill 21 = .ok (.aload_n 0, 1) := by decide +kernel
theorem dX2_fill_22 : decode cX2_fill 22 = .ok (.getfield 18, 3) := by decide +kernel
theorem dX2_fill_25 : decode cX2_fill 25 = .ok (.iload_n 1, 1) := by decide +kernel
theorem dX2_fill_26 : decode cX2_fill 26 = .ok (.iload 4, 2) := by decide +kernel
theorem dX2_fill_28 : decode cX2_fill 28 = .ok (.iastore, 1) := by decide +kernel
theorem dX2_fill_29 : decode cX2_fill 29 = .ok (.aload_n 0, 1) := by decide +kernel
theorem dX2_fill_30 : decode cX2_fill 30 = .ok (.getfield 24, 3) := by decide +kernel
theorem dX2_fill_33 : decode cX2_fill 33 = .ok (.iload_n 1, 1) := by decide +kernel
theorem dX2_fill_34 : decode cX2_fill 34 = .ok (.iload 5, 2) := by decide +kernel
theorem dX2_fill_36 : decode cX2_fill 36 = .ok (.bastore, 1) := by decide +kernel
theorem dX2_fill_37 : decode cX2_fill 37 = .ok (.aload_n 0, 1) := by decide +kernel
theorem dX2_fill_38 : decode cX2_fill 38 = .ok (.iload_n 1, 1) := by decide +kernel
theorem dX2_fill_39 : decode cX2_fill 39 = .ok (.invokevirtual 59, 3) := by decide +kernel
theorem dX2_fill_42 : decode cX2_fill 42 = .ok (.return_, 1) := by decide +kernel
set_option maxRecDepth 20000 in
theorem ggX2_use_X4_isLine : GoodIn wsX2_use wsX4_isLine := goodIn_r _ [5] (by decide +kernel) (by decide +kernel)
set_option maxRecDepth 20000 in
theorem gX2_use_X4_isLine_n55 : GoodIn wsX2_use (wsX4_isLine) := ggX2_use_X4_isLine
theorem dX2_use_0 : decode cX2_use 0 = .ok (.iload_n 1, 1) := by decide +kernel
theorem dX2_use_1 : decode cX2_use 1 = .ok (.invokestatic 55, 3) := by decide +kernel
theorem dX2_use_4 : decode cX2_use 4 = .ok (.ifCond .eq 23, 3) := by decide +kernel
theorem dX2_use_7 : decode cX2_use 7 = .ok (.aload_n 0, 1) := by decide +kernel
theorem dX2_use_8 : decode cX2_use 8 = .ok (.dup, 1) := by decide +kernel
theorem dX2_use_9 : decode cX2_use 9 = .ok (.getfield 45, 3) := by decide +kernel
theorem dX2_use_12 : decode cX2_use 12 = .ok (.iconst 1, 1) := by decide +kernel
theorem dX2_use_13 : decode cX2_use 13 = .ok (.iadd, 1) := by decide +kernel
theorem dX2_use_14 : decode cX2_use 14 = .ok (.putfield 45, 3) := by decide +kernel
theorem dX2_use_17 : decode cX2_use 17 = .ok (.aload_n 0, 1) := by decide +kernel
theorem dX2_use_18 : decode cX2_use 18 = .ok (.getfield 21, 3) := by decide +kernel
theorem dX2_use_21 : decode cX2_use 21 = .ok (.iload_n 1, 1) := by decide +kernel
theorem dX2_use_22 : decode cX2_use 22 = .ok (.aload_n 0, 1) := by decide +kernel
theorem dX2_use_23 : decode cX2_use 23 = .ok (.getfield 45, 3) := by decide +kernel
theorem dX2_use_26 : decode cX2_use 26 = .ok (.iastore, 1) := by decide +kernel
theorem dX2_use_27 : decode cX2_use 27 = .ok (.return_, 1) := by decide +kernel
set_option maxRecDepth 20000 in
theorem ggX2_empty_X4_isLine : GoodIn wsX2_empty wsX4_isLine := goodIn_r _ [5] (by decide +kernel) (by decide +kernel)
set_option maxRecDepth 20000 in
theorem gX2_empty_X4_isLine_n55 : GoodIn wsX2_empty (wsX4_isLine) := ggX2_empty_X4_isLine
theorem dX2_empty_0 : decode cX2_empty 0 = .ok (.iload_n 1, 1) := by decide +kernel
theorem dX2_empty_1 : decode cX2_empty 1 = .ok (.invokestatic 55, 3) := by decide +kernel
theorem dX2_empty_4 : decode cX2_empty 4 = .ok (.ifCond .eq 17, 3) := by decide +kernel
theorem dX2_empty_7 : decode cX2_empty 7 = .ok (.aload_n 0, 1) := by decide +kernel
theorem dX2_empty_8 : decode cX2_empty 8 = .ok (.getfield 9, 3) := by decide +kernel
theorem dX2_empty_11 : decode cX2_empty 11 = .ok (.iload_n 1, 1) := by decide +kernel
theorem dX2_empty_12 : decode cX2_empty 12 = .ok (.iconst (-1), 1) := by decide +kernel
theorem dX2_empty_13 : decode cX2_empty 13 = .ok (.iastore, 1) := by decide +kernel
theorem dX2_empty_14 : decode cX2_empty 14 = .ok (.aload_n 0, 1) := by decide +kernel
theorem dX2_empty_15 : decode cX2_empty 15 = .ok (.getfield 24, 3) := by decide +kernel
theorem dX2_empty_18 : decode cX2_empty 18 = .ok (.iload_n 1, 1) := by decide +kernel
theorem dX2_empty_19 : decode cX2_empty 19 = .ok (.iconst 0, 1) := by decide +kernel
theorem dX2_empty_20 : decode cX2_empty 20 = .ok (.bastore, 1) := by decide +kernel
theorem dX2_empty_21 : decode cX2_empty 21 = .ok (.return_, 1) := by decide +kernel
set_option maxRecDepth 20000 in
theorem ggX2_isDirtyOf_X4_stripeOf : GoodIn wsX2_isDirtyOf wsX4_stripeOf := goodIn_r _ [5] (by decide +kernel) (by decide +kernel)
set_option maxRecDepth 20000 in
theorem gX2_isDirtyOf_X4_stripeOf_n63 : GoodIn wsX2_isDirtyOf (wsX4_stripeOf) := ggX2_isDirtyOf_X4_stripeOf
theorem dX2_isDirtyOf_0 : decode cX2_isDirtyOf 0 = .ok (.iload_n 1, 1) := by decide +kernel
theorem dX2_isDirtyOf_1 : decode cX2_isDirtyOf 1 = .ok (.ifCond .lt 35, 3) := by decide +kernel
theorem dX2_isDirtyOf_4 : decode cX2_isDirtyOf 4 = .ok (.iload_n 1, 1) := by decide +kernel
theorem dX2_isDirtyOf_5 : decode cX2_isDirtyOf 5 = .ok (.bipush 12, 2) := by decide +kernel
theorem dX2_isDirtyOf_7 : decode cX2_isDirtyOf 7 = .ok (.if_icmp .ge 29, 3) := by decide +kernel
theorem dX2_isDirtyOf_10 : decode cX2_isDirtyOf 10 = .ok (.aload_n 0, 1) := by decide +kernel
theorem dX2_isDirtyOf_11 : decode cX2_isDirtyOf 11 = .ok (.getfield 24, 3) := by decide +kernel
theorem dX2_isDirtyOf_14 : decode cX2_isDirtyOf 14 = .ok (.iload_n 1, 1) := by decide +kernel
theorem dX2_isDirtyOf_15 : decode cX2_isDirtyOf 15 = .ok (.baload, 1) := by decide +kernel
theorem dX2_isDirtyOf_16 : decode cX2_isDirtyOf 16 = .ok (.ifCond .eq 20, 3) := by decide +kernel
theorem dX2_isDirtyOf_19 : decode cX2_isDirtyOf 19 = .ok (.aload_n 0, 1) := by decide +kernel
theorem dX2_isDirtyOf_20 : decode cX2_isDirtyOf 20 = .ok (.getfield 9, 3) := by decide +kernel
theorem dX2_isDirtyOf_23 : decode cX2_isDirtyOf 23 = .ok (.iload_n 1, 1) := by decide +kernel
theorem dX2_isDirtyOf_24 : decode cX2_isDirtyOf 24 = .ok (.iaload, 1) := by decide +kernel
theorem dX2_isDirtyOf_25 : decode cX2_isDirtyOf 25 = .ok (.invokestatic 63, 3) := by decide +kernel
theorem dX2_isDirtyOf_28 : decode cX2_isDirtyOf 28 = .ok (.iload_n 2, 1) := by decide +kernel
theorem dX2_isDirtyOf_29 : decode cX2_isDirtyOf 29 = .ok (.if_icmp .ne 7, 3) := by decide +kernel
theorem dX2_isDirtyOf_32 : decode cX2_isDirtyOf 32 = .ok (.iconst 1, 1) := by decide +kernel
theorem dX2_isDirtyOf_33 : decode cX2_isDirtyOf 33 = .ok (.goto 4, 3) := by decide +kernel
theorem dX2_isDirtyOf_36 : decode cX2_isDirtyOf 36 = .ok (.iconst 0, 1) := by decide +kernel
theorem dX2_isDirtyOf_37 : decode cX2_isDirtyOf 37 = .ok (.ireturn, 1) := by decide +kernel
set_option maxRecDepth 20000 in
theorem ggX2_dirtyLinesOf_X2_isDirtyOf : GoodIn wsX2_dirtyLinesOf wsX2_isDirtyOf := goodIn_r _ [5, 6, 7, 8, 9, 10, 11, 12, 13, 14, 15, 16, 17, 18, 19] (by decide +kernel) (by decide +kernel)
set_option maxRecDepth 20000 in
theorem gX2_dirtyLinesOf_X2_isDirtyOf : GoodIn wsX2_dirtyLinesOf (wsV RX2 66 RX2 yX2_isDirtyOf wsX2_isDirtyOf) := goodIn_app (goodIn_of _ (by decide +kernel)) ggX2_dirtyLinesOf_X2_isDirtyOf
theorem dX2_dirtyLinesOf_0 : decode cX2_dirtyLinesOf 0 = .ok (.iconst 0, 1) := by decide +kernel
theorem dX2_dirtyLinesOf_1 : decode cX2_dirtyLinesOf 1 = .ok (.istore_n 2, 1) := by decide +kernel
theorem dX2_dirtyLinesOf_2 : decode cX2_dirtyLinesOf 2 = .ok (.iconst 0, 1) := by decide +kernel
theorem dX2_dirtyLinesOf_3 : decode cX2_dirtyLinesOf 3 = .ok (.istore_n 3, 1) := by decide +kernel
theorem dX2_dirtyLinesOf_4 : decode cX2_dirtyLinesOf 4 = .ok (.iload_n 3, 1) := by decide +kernel
theorem dX2_dirtyLinesOf_5 : decode cX2_dirtyLinesOf 5 = .ok (.bipush 12, 2) := by decide +kernel
theorem dX2_dirtyLinesOf_7 : decode cX2_dirtyLinesOf 7 = .ok (.if_icmp .ge 21, 3) := by decide +kernel
theorem dX2_dirtyLinesOf_10 : decode cX2_dirtyLinesOf 10 = .ok (.aload_n 0, 1) := by decide +kernel
theorem dX2_dirtyLinesOf_11 : decode cX2_dirtyLinesOf 11 = .ok (.iload_n 3, 1) := by decide +kernel
theorem dX2_dirtyLinesOf_12 : decode cX2_dirtyLinesOf 12 = .ok (.iload_n 1, 1) := by decide +kernel
theorem dX2_dirtyLinesOf_13 : decode cX2_dirtyLinesOf 13 = .ok (.invokevirtual 66, 3) := by decide +kernel
theorem dX2_dirtyLinesOf_16 : decode cX2_dirtyLinesOf 16 = .ok (.ifCond .eq 6, 3) := by decide +kernel
theorem dX2_dirtyLinesOf_19 : decode cX2_dirtyLinesOf 19 = .ok (.iinc 2 1, 3) := by decide +kernel
theorem dX2_dirtyLinesOf_22 : decode cX2_dirtyLinesOf 22 = .ok (.iinc 3 1, 3) := by decide +kernel
theorem dX2_dirtyLinesOf_25 : decode cX2_dirtyLinesOf 25 = .ok (.goto (-21), 3) := by decide +kernel
theorem dX2_dirtyLinesOf_28 : decode cX2_dirtyLinesOf 28 = .ok (.iload_n 2, 1) := by decide +kernel
theorem dX2_dirtyLinesOf_29 : decode cX2_dirtyLinesOf 29 = .ok (.ireturn, 1) := by decide +kernel
theorem dX2_dirtyLines_0 : decode cX2_dirtyLines 0 = .ok (.iconst 0, 1) := by decide +kernel
theorem dX2_dirtyLines_1 : decode cX2_dirtyLines 1 = .ok (.istore_n 1, 1) := by decide +kernel
theorem dX2_dirtyLines_2 : decode cX2_dirtyLines 2 = .ok (.iconst 0, 1) := by decide +kernel
theorem dX2_dirtyLines_3 : decode cX2_dirtyLines 3 = .ok (.istore_n 2, 1) := by decide +kernel
theorem dX2_dirtyLines_4 : decode cX2_dirtyLines 4 = .ok (.iload_n 2, 1) := by decide +kernel
theorem dX2_dirtyLines_5 : decode cX2_dirtyLines 5 = .ok (.bipush 12, 2) := by decide +kernel
theorem dX2_dirtyLines_7 : decode cX2_dirtyLines 7 = .ok (.if_icmp .ge 21, 3) := by decide +kernel
theorem dX2_dirtyLines_10 : decode cX2_dirtyLines 10 = .ok (.aload_n 0, 1) := by decide +kernel
theorem dX2_dirtyLines_11 : decode cX2_dirtyLines 11 = .ok (.getfield 24, 3) := by decide +kernel
theorem dX2_dirtyLines_14 : decode cX2_dirtyLines 14 = .ok (.iload_n 2, 1) := by decide +kernel
theorem dX2_dirtyLines_15 : decode cX2_dirtyLines 15 = .ok (.baload, 1) := by decide +kernel
theorem dX2_dirtyLines_16 : decode cX2_dirtyLines 16 = .ok (.ifCond .eq 6, 3) := by decide +kernel
theorem dX2_dirtyLines_19 : decode cX2_dirtyLines 19 = .ok (.iinc 1 1, 3) := by decide +kernel
theorem dX2_dirtyLines_22 : decode cX2_dirtyLines 22 = .ok (.iinc 2 1, 3) := by decide +kernel
theorem dX2_dirtyLines_25 : decode cX2_dirtyLines 25 = .ok (.goto (-21), 3) := by decide +kernel
theorem dX2_dirtyLines_28 : decode cX2_dirtyLines 28 = .ok (.iload_n 1, 1) := by decide +kernel
theorem dX2_dirtyLines_29 : decode cX2_dirtyLines 29 = .ok (.ireturn, 1) := by decide +kernel
theorem dX2_usedLines_0 : decode cX2_usedLines 0 = .ok (.iconst 0, 1) := by decide +kernel
theorem dX2_usedLines_1 : decode cX2_usedLines 1 = .ok (.istore_n 1, 1) := by decide +kernel
theorem dX2_usedLines_2 : decode cX2_usedLines 2 = .ok (.iconst 0, 1) := by decide +kernel
theorem dX2_usedLines_3 : decode cX2_usedLines 3 = .ok (.istore_n 2, 1) := by decide +kernel
theorem dX2_usedLines_4 : decode cX2_usedLines 4 = .ok (.iload_n 2, 1) := by decide +kernel
theorem dX2_usedLines_5 : decode cX2_usedLines 5 = .ok (.bipush 12, 2) := by decide +kernel
theorem dX2_usedLines_7 : decode cX2_usedLines 7 = .ok (.if_icmp .ge 22, 3) := by decide +kernel
theorem dX2_usedLines_10 : decode cX2_usedLines 10 = .ok (.aload_n 0, 1) := by decide +kernel
theorem dX2_usedLines_11 : decode cX2_usedLines 11 = .ok (.getfield 9, 3) := by decide +kernel
theorem dX2_usedLines_14 : decode cX2_usedLines 14 = .ok (.iload_n 2, 1) := by decide +kernel
theorem dX2_usedLines_15 : decode cX2_usedLines 15 = .ok (.iaload, 1) := by decide +kernel
theorem dX2_usedLines_16 : decode cX2_usedLines 16 = .ok (.iconst (-1), 1) := by decide +kernel
theorem dX2_usedLines_17 : decode cX2_usedLines 17 = .ok (.if_icmp .eq 6, 3) := by decide +kernel
theorem dX2_usedLines_20 : decode cX2_usedLines 20 = .ok (.iinc 1 1, 3) := by decide +kernel
theorem dX2_usedLines_23 : decode cX2_usedLines 23 = .ok (.iinc 2 1, 3) := by decide +kernel
theorem dX2_usedLines_26 : decode cX2_usedLines 26 = .ok (.goto (-22), 3) := by decide +kernel
theorem dX2_usedLines_29 : decode cX2_usedLines 29 = .ok (.iload_n 1, 1) := by decide +kernel
theorem dX2_usedLines_30 : decode cX2_usedLines 30 = .ok (.ireturn, 1) := by decide +kernel
set_option maxRecDepth 20000 in
theorem ggX2_partOf_X4_isLine : GoodIn wsX2_partOf wsX4_isLine := goodIn_r _ [8] (by decide +kernel) (by decide +kernel)
set_option maxRecDepth 20000 in
theorem gX2_partOf_X4_isLine_n55 : GoodIn wsX2_partOf (wsX4_isLine) := ggX2_partOf_X4_isLine
theorem dX2_partOf_0 : decode cX2_partOf 0 = .ok (.iload_n 1, 1) := by decide +kernel
theorem dX2_partOf_1 : decode cX2_partOf 1 = .ok (.invokestatic 55, 3) := by decide +kernel
theorem dX2_partOf_4 : decode cX2_partOf 4 = .ok (.ifCond .eq 13, 3) := by decide +kernel
theorem dX2_partOf_7 : decode cX2_partOf 7 = .ok (.aload_n 0, 1) := by decide +kernel
theorem dX2_partOf_8 : decode cX2_partOf 8 = .ok (.getfield 9, 3) := by decide +kernel
theorem dX2_partOf_11 : decode cX2_partOf 11 = .ok (.iload_n 1, 1) := by decide +kernel
theorem dX2_partOf_12 : decode cX2_partOf 12 = .ok (.iaload, 1) := by decide +kernel
theorem dX2_partOf_13 : decode cX2_partOf 13 = .ok (.iconst (-1), 1) := by decide +kernel
theorem dX2_partOf_14 : decode cX2_partOf 14 = .ok (.if_icmp .ne 5, 3) := by decide +kernel
theorem dX2_partOf_17 : decode cX2_partOf 17 = .ok (.iconst (-1), 1) := by decide +kernel
theorem dX2_partOf_18 : decode cX2_partOf 18 = .ok (.ireturn, 1) := by decide +kernel
theorem dX2_partOf_19 : decode cX2_partOf 19 = .ok (.iload_n 2, 1) := by decide +kernel
theorem dX2_partOf_20 : decode cX2_partOf 20 = .ok (.tableswitch 79 0 4 #[36, 43, 50, 57, 64], 36) := by decide +kernel
theorem dX2_partOf_56 : decode cX2_partOf 56 = .ok (.aload_n 0, 1) := by decide +kernel
theorem dX2_partOf_57 : decode cX2_partOf 57 = .ok (.getfield 9, 3) := by decide +kernel
theorem dX2_partOf_60 : decode cX2_partOf 60 = .ok (.iload_n 1, 1) := by decide +kernel
theorem dX2_partOf_61 : decode cX2_partOf 61 = .ok (.iaload, 1) := by decide +kernel
theorem dX2_partOf_62 : decode cX2_partOf 62 = .ok (.ireturn, 1) := by decide +kernel
theorem dX2_partOf_63 : decode cX2_partOf 63 = .ok (.aload_n 0, 1) := by decide +kernel
theorem dX2_partOf_64 : decode cX2_partOf 64 = .ok (.getfield 15, 3) := by decide +kernel
theorem dX2_partOf_67 : decode cX2_partOf 67 = .ok (.iload_n 1, 1) := by decide +kernel
theorem dX2_partOf_68 : decode cX2_partOf 68 = .ok (.iaload, 1) := by decide +kernel
theorem dX2_partOf_69 : decode cX2_partOf 69 = .ok (.ireturn, 1) := by decide +kernel
theorem dX2_partOf_70 : decode cX2_partOf 70 = .ok (.aload_n 0, 1) := by decide +kernel
theorem dX2_partOf_71 : decode cX2_partOf 71 = .ok (.getfield 18, 3) := by decide +kernel
theorem dX2_partOf_74 : decode cX2_partOf 74 = .ok (.iload_n 1, 1) := by decide +kernel
theorem dX2_partOf_75 : decode cX2_partOf 75 = .ok (.iaload, 1) := by decide +kernel
theorem dX2_partOf_76 : decode cX2_partOf 76 = .ok (.ireturn, 1) := by decide +kernel
theorem dX2_partOf_77 : decode cX2_partOf 77 = .ok (.aload_n 0, 1) := by decide +kernel
theorem dX2_partOf_78 : decode cX2_partOf 78 = .ok (.getfield 21, 3) := by decide +kernel
theorem dX2_partOf_81 : decode cX2_partOf 81 = .ok (.iload_n 1, 1) := by decide +kernel
theorem dX2_partOf_82 : decode cX2_partOf 82 = .ok (.iaload, 1) := by decide +kernel
theorem dX2_partOf_83 : decode cX2_partOf 83 = .ok (.ireturn, 1) := by decide +kernel
theorem dX2_partOf_84 : decode cX2_partOf 84 = .ok (.aload_n 0, 1) := by decide +kernel
theorem dX2_partOf_85 : decode cX2_partOf 85 = .ok (.getfield 24, 3) := by decide +kernel
theorem dX2_partOf_88 : decode cX2_partOf 88 = .ok (.iload_n 1, 1) := by decide +kernel
theorem dX2_partOf_89 : decode cX2_partOf 89 = .ok (.baload, 1) := by decide +kernel
theorem dX2_partOf_90 : decode cX2_partOf 90 = .ok (.ifCond .eq 7, 3) := by decide +kernel
theorem dX2_partOf_93 : decode cX2_partOf 93 = .ok (.iconst 1, 1) := by decide +kernel
theorem dX2_partOf_94 : decode cX2_partOf 94 = .ok (.goto 4, 3) := by decide +kernel
theorem dX2_partOf_97 : decode cX2_partOf 97 = .ok (.iconst 0, 1) := by decide +kernel
theorem dX2_partOf_98 : decode cX2_partOf 98 = .ok (.ireturn, 1) := by decide +kernel
theorem dX2_partOf_99 : decode cX2_partOf 99 = .ok (.iconst (-1), 1) := by decide +kernel
theorem dX2_partOf_100 : decode cX2_partOf 100 = .ok (.ireturn, 1) := by decide +kernel
theorem dX2_limitTo_0 : decode cX2_limitTo 0 = .ok (.aload_n 0, 1) := by decide +kernel
theorem dX2_limitTo_1 : decode cX2_limitTo 1 = .ok (.iload_n 1, 1) := by decide +kernel
theorem dX2_limitTo_2 : decode cX2_limitTo 2 = .ok (.putfield 28, 3) := by decide +kernel
theorem dX2_limitTo_5 : decode cX2_limitTo 5 = .ok (.aload_n 0, 1) := by decide +kernel
theorem dX2_limitTo_6 : decode cX2_limitTo 6 = .ok (.aload_n 0, 1) := by decide +kernel
theorem dX2_limitTo_7 : decode cX2_limitTo 7 = .ok (.getfield 32, 3) := by decide +kernel
theorem dX2_limitTo_10 : decode cX2_limitTo 10 = .ok (.aload_n 0, 1) := by decide +kernel
theorem dX2_limitTo_11 : decode cX2_limitTo 11 = .ok (.getfield 28, 3) := by decide +kernel
theorem dX2_limitTo_14 : decode cX2_limitTo 14 = .ok (.invokestatic 70, 3) := by decide +kernel
theorem dX2_limitTo_17 : decode cX2_limitTo 17 = .ok (.putfield 32, 3) := by decide +kernel
theorem dX2_limitTo_20 : decode cX2_limitTo 20 = .ok (.return_, 1) := by decide +kernel
theorem dX2_load_0 : decode cX2_load 0 = .ok (.aload_n 0, 1) := by decide +kernel
theorem dX2_load_1 : decode cX2_load 1 = .ok (.aload_n 0, 1) := by decide +kernel
theorem dX2_load_2 : decode cX2_load 2 = .ok (.getfield 32, 3) := by decide +kernel
theorem dX2_load_5 : decode cX2_load 5 = .ok (.iconst 2, 1) := by decide +kernel
theorem dX2_load_6 : decode cX2_load 6 = .ok (.iadd, 1) := by decide +kernel
theorem dX2_load_7 : decode cX2_load 7 = .ok (.aload_n 0, 1) := by decide +kernel
theorem dX2_load_8 : decode cX2_load 8 = .ok (.getfield 28, 3) := by decide +kernel
theorem dX2_load_11 : decode cX2_load 11 = .ok (.invokestatic 70, 3) := by decide +kernel
theorem dX2_load_14 : decode cX2_load 14 = .ok (.putfield 32, 3) := by decide +kernel
theorem dX2_load_17 : decode cX2_load 17 = .ok (.return_, 1) := by decide +kernel
set_option maxRecDepth 20000 in
theorem ggX2_drain_X2_dirtyLines : GoodIn wsX2_drain wsX2_dirtyLines := goodIn_r _ [10, 11, 20, 21, 22, 23, 24, 25, 26, 27, 28] (by decide +kernel) (by decide +kernel)
set_option maxRecDepth 20000 in
theorem gX2_drain_X2_dirtyLines : GoodIn wsX2_drain (wsV RX2 79 RX2 yX2_dirtyLines wsX2_dirtyLines) := goodIn_app (goodIn_of _ (by decide +kernel)) ggX2_drain_X2_dirtyLines
set_option maxRecDepth 20000 in
theorem ggX2_drain_X2_empty : GoodIn wsX2_drain wsX2_empty := goodIn_r _ [15, 16, 11, 17, 18, 19, 20, 21, 22, 23, 24, 25, 26, 27, 28] (by decide +kernel) (by decide +kernel)
set_option maxRecDepth 20000 in
theorem gX2_drain_X2_empty : GoodIn wsX2_drain (wsV RX2 83 RX2 yX2_empty wsX2_empty) := goodIn_app (goodIn_of _ (by decide +kernel)) ggX2_drain_X2_empty
theorem dX2_drain_0 : decode cX2_drain 0 = .ok (.aload_n 0, 1) := by decide +kernel
theorem dX2_drain_1 : decode cX2_drain 1 = .ok (.aload_n 0, 1) := by decide +kernel
theorem dX2_drain_2 : decode cX2_drain 2 = .ok (.getfield 32, 3) := by decide +kernel
theorem dX2_drain_5 : decode cX2_drain 5 = .ok (.iconst 1, 1) := by decide +kernel
theorem dX2_drain_6 : decode cX2_drain 6 = .ok (.isub, 1) := by decide +kernel
theorem dX2_drain_7 : decode cX2_drain 7 = .ok (.iconst 0, 1) := by decide +kernel
theorem dX2_drain_8 : decode cX2_drain 8 = .ok (.invokestatic 76, 3) := by decide +kernel
theorem dX2_drain_11 : decode cX2_drain 11 = .ok (.putfield 32, 3) := by decide +kernel
theorem dX2_drain_14 : decode cX2_drain 14 = .ok (.aload_n 0, 1) := by decide +kernel
theorem dX2_drain_15 : decode cX2_drain 15 = .ok (.getfield 32, 3) := by decide +kernel
theorem dX2_drain_18 : decode cX2_drain 18 = .ok (.ifCond .le 5, 3) := by decide +kernel
theorem dX2_drain_21 : decode cX2_drain 21 = .ok (.iconst 0, 1) := by decide +kernel
theorem dX2_drain_22 : decode cX2_drain 22 = .ok (.ireturn, 1) := by decide +kernel
theorem dX2_drain_23 : decode cX2_drain 23 = .ok (.aload_n 0, 1) := by decide +kernel
theorem dX2_drain_24 : decode cX2_drain 24 = .ok (.invokevirtual 79, 3) := by decide +kernel
theorem dX2_drain_27 : decode cX2_drain 27 = .ok (.istore_n 1, 1) := by decide +kernel
theorem dX2_drain_28 : decode cX2_drain 28 = .ok (.iconst 0, 1) := by decide +kernel
theorem dX2_drain_29 : decode cX2_drain 29 = .ok (.istore_n 2, 1) := by decide +kernel
theorem dX2_drain_30 : decode cX2_drain 30 = .ok (.iload_n 2, 1) := by decide +kernel
theorem dX2_drain_31 : decode cX2_drain 31 = .ok (.bipush 12, 2) := by decide +kernel
theorem dX2_drain_33 : decode cX2_drain 33 = .ok (.if_icmp .ge 14, 3) := by decide +kernel
theorem dX2_drain_36 : decode cX2_drain 36 = .ok (.aload_n 0, 1) := by decide +kernel
theorem dX2_drain_37 : decode cX2_drain 37 = .ok (.iload_n 2, 1) := by decide +kernel
theorem dX2_drain_38 : decode cX2_drain 38 = .ok (.invokevirtual 83, 3) := by decide +kernel
theorem dX2_drain_41 : decode cX2_drain 41 = .ok (.iinc 2 1, 3) := by decide +kernel
theorem dX2_drain_44 : decode cX2_drain 44 = .ok (.goto (-14), 3) := by decide +kernel
theorem dX2_drain_47 : decode cX2_drain 47 = .ok (.iload_n 1, 1) := by decide +kernel
theorem dX2_drain_48 : decode cX2_drain 48 = .ok (.ireturn, 1) := by decide +kernel
