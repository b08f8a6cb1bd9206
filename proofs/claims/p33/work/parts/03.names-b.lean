theorem dX3_init_0 : decode cX3_init 0 = .ok (.aload_n 0, 1) := by decide +kernel
theorem dX3_init_1 : decode cX3_init 1 = .ok (.invokespecial 3, 3) := by decide +kernel
theorem dX3_init_4 : decode cX3_init 4 = .ok (.aload_n 0, 1) := by decide +kernel
theorem dX3_init_5 : decode cX3_init 5 = .ok (.bipush 80, 2) := by decide +kernel
theorem dX3_init_7 : decode cX3_init 7 = .ok (.newarray .char, 2) := by decide +kernel
theorem dX3_init_9 : decode cX3_init 9 = .ok (.putfield 9, 3) := by decide +kernel
theorem dX3_init_12 : decode cX3_init 12 = .ok (.return_, 1) := by decide +kernel
set_option maxRecDepth 20000 in
theorem ggX4_init_X1_init : GoodIn wsX4_init wsX1_init := goodIn_r _ [17, 18, 2, 3, 19, 20, 21, 22, 23, 24, 25, 26, 27, 28, 29, 30, 31, 32, 33, 34, 35, 36, 37, 38, 39, 40, 41, 72, 73, 74, 75, 76, 77, 78, 79, 80, 53, 54, 55, 56, 57, 58, 59] (by decide +kernel) (by decide +kernel)
set_option maxRecDepth 20000 in
theorem gX4_init_X1_init_n9 : GoodIn wsX4_init (wsX1_init) := ggX4_init_X1_init
set_option maxRecDepth 20000 in
theorem ggX4_init_X0_init : GoodIn wsX4_init wsX0_init := goodIn_r _ [44, 45, 2, 3, 46, 47, 5, 6, 16, 17, 18, 19, 20, 21, 22, 23, 24, 25, 26, 27, 28, 29, 30, 31, 32, 33, 34, 35, 36, 37, 38, 39, 40, 41, 63, 64, 65, 53, 54, 55, 56, 57, 58, 59, 72, 73, 74, 75, 76, 77, 78, 79, 80] (by decide +kernel) (by decide +kernel)
set_option maxRecDepth 20000 in
theorem gX4_init_X0_init : GoodIn wsX4_init (wsX0_init) := ggX4_init_X0_init
set_option maxRecDepth 20000 in
theorem ggX4_init_X3_init : GoodIn wsX4_init wsX3_init := goodIn_r _ [49, 50, 2, 3, 51, 52, 66, 67, 68, 69, 70, 71] (by decide +kernel) (by decide +kernel)
set_option maxRecDepth 20000 in
theorem gX4_init_X3_init_n25 : GoodIn wsX4_init (wsX3_init) := ggX4_init_X3_init
theorem dX4_init_0 : decode cX4_init 0 = .ok (.aload_n 0, 1) := by decide +kernel
theorem dX4_init_1 : decode cX4_init 1 = .ok (.invokespecial 1, 3) := by decide +kernel
theorem dX4_init_4 : decode cX4_init 4 = .ok (.aload_n 0, 1) := by decide +kernel
theorem dX4_init_5 : decode cX4_init 5 = .ok (.new 7, 3) := by decide +kernel
theorem dX4_init_8 : decode cX4_init 8 = .ok (.dup, 1) := by decide +kernel
theorem dX4_init_9 : decode cX4_init 9 = .ok (.invokespecial 9, 3) := by decide +kernel
theorem dX4_init_12 : decode cX4_init 12 = .ok (.putfield 10, 3) := by decide +kernel
theorem dX4_init_15 : decode cX4_init 15 = .ok (.aload_n 0, 1) := by decide +kernel
theorem dX4_init_16 : decode cX4_init 16 = .ok (.new 16, 3) := by decide +kernel
theorem dX4_init_19 : decode cX4_init 19 = .ok (.dup, 1) := by decide +kernel
theorem dX4_init_20 : decode cX4_init 20 = .ok (.invokespecial 18, 3) := by decide +kernel
theorem dX4_init_23 : decode cX4_init 23 = .ok (.putfield 19, 3) := by decide +kernel
theorem dX4_init_26 : decode cX4_init 26 = .ok (.aload_n 0, 1) := by decide +kernel
theorem dX4_init_27 : decode cX4_init 27 = .ok (.new 23, 3) := by decide +kernel
theorem dX4_init_30 : decode cX4_init 30 = .ok (.dup, 1) := by decide +kernel
theorem dX4_init_31 : decode cX4_init 31 = .ok (.invokespecial 25, 3) := by decide +kernel
theorem dX4_init_34 : decode cX4_init 34 = .ok (.putfield 26, 3) := by decide +kernel
theorem dX4_init_37 : decode cX4_init 37 = .ok (.return_, 1) := by decide +kernel
set_option maxRecDepth 20000 in
theorem ggX4_write_X4_requireBlock : GoodIn wsX4_write wsX4_requireBlock := goodIn_ca (goodIn_r _ [8, 9, 10, 11, 12, 7, 13] (by decide +kernel) (by decide +kernel)) (goodIn_sub (fun _ h => List.mem_cons_of_mem _ (List.mem_append_left _ (List.mem_append_right _ h))) (by decide +kernel))
set_option maxRecDepth 20000 in
theorem gX4_write_X4_requireBlock : GoodIn wsX4_write (va_wsS RX4 30 yX4_requireBlock wsX4_requireBlock) := goodIn_app (goodIn_of _ (by decide +kernel)) ggX4_write_X4_requireBlock
set_option maxRecDepth 20000 in
theorem ggX4_write_X4_requirePower : GoodIn wsX4_write wsX4_requirePower := goodIn_ca (goodIn_r _ [17, 18, 19, 4, 20, 144, 145, 146, 147, 148, 149, 150, 151, 152, 153] (by decide +kernel) (by decide +kernel)) (goodIn_sub (fun _ h => List.mem_cons_of_mem _ (List.mem_append_right _ h)) (by decide +kernel))
set_option maxRecDepth 20000 in
theorem gX4_write_X4_requirePower : GoodIn wsX4_write (wsV RX4 41 RX4 yX4_requirePower wsX4_requirePower) := goodIn_app (goodIn_of _ (by decide +kernel)) ggX4_write_X4_requirePower
set_option maxRecDepth 20000 in
theorem ggX4_write_X0_save : GoodIn wsX4_write wsX0_save := goodIn_r _ [25, 26, 27, 28, 29, 30, 31, 32, 33, 34, 35, 36, 37, 38, 39, 40, 41, 42, 43, 44, 45, 46, 47, 48, 49, 50, 51, 52, 53, 54, 55, 56, 57, 58, 59, 60, 61, 62, 63, 64, 65, 66, 67, 154, 155, 156, 147, 148, 149, 150, 151, 152, 153, 157, 158, 159, 160, 161, 162, 163, 164, 165] (by decide +kernel) (by decide +kernel)
set_option maxRecDepth 20000 in
theorem gX4_write_X0_save : GoodIn wsX4_write (wsV RX4 44 RX0 yX0_save wsX0_save) := goodIn_app (goodIn_of _ (by decide +kernel)) ggX4_write_X0_save
set_option maxRecDepth 20000 in
theorem ggX4_write_X1_writeBlock : GoodIn wsX4_write wsX1_writeBlock := goodIn_r _ [71, 50, 51, 49, 12, 7, 13, 72, 73, 74, 40, 75, 42, 76, 77, 78, 79, 80, 81, 82, 83, 84, 85, 86, 56, 87, 58, 88, 89, 90, 91, 92, 93, 63, 62, 94, 95, 96, 97, 98, 99, 100, 101, 102, 103, 104, 105, 106, 107, 108, 109, 110, 111, 112, 113, 114, 115, 116, 117, 118, 43, 48, 119, 120, 121, 122, 123, 124, 125, 126, 127, 128, 129, 130, 60, 61, 131, 132, 133, 134, 64, 135, 136, 137, 138, 139, 140, 141, 142, 67, 143, 147, 148, 149, 150, 151, 152, 153, 157, 158, 159, 160, 161, 162, 163, 164, 165] (by decide +kernel) (by decide +kernel)
set_option maxRecDepth 20000 in
theorem gX4_write_X1_writeBlock : GoodIn wsX4_write (wsV RX4 48 RX1 yX1_writeBlock wsX1_writeBlock) := goodIn_app (goodIn_of _ (by decide +kernel)) ggX4_write_X1_writeBlock
theorem dX4_write_0 : decode cX4_write 0 = .ok (.iload_n 1, 1) := by decide +kernel
theorem dX4_write_1 : decode cX4_write 1 = .ok (.invokestatic 30, 3) := by decide +kernel
theorem dX4_write_4 : decode cX4_write 4 = .ok (.iload_n 2, 1) := by decide +kernel
theorem dX4_write_5 : decode cX4_write 5 = .ok (.ifCond .lt 10, 3) := by decide +kernel
theorem dX4_write_8 : decode cX4_write 8 = .ok (.iload_n 2, 1) := by decide +kernel
theorem dX4_write_9 : decode cX4_write 9 = .ok (.sipush 999, 3) := by decide +kernel
theorem dX4_write_12 : decode cX4_write 12 = .ok (.if_icmp .le 13, 3) := by decide +kernel
theorem dX4_write_15 : decode cX4_write 15 = .ok (.new 34, 3) := by decide +kernel
theorem dX4_write_18 : decode cX4_write 18 = .ok (.dup, 1) := by decide +kernel
theorem dX4_write_19 : decode cX4_write 19 = .ok (.ldc 36, 2) := by decide +kernel
theorem dX4_write_21 : decode cX4_write 21 = .ok (.invokespecial 38, 3) := by decide +kernel
theorem dX4_write_24 : decode cX4_write 24 = .ok (.athrow, 1) := by decide +kernel
theorem dX4_write_25 : decode cX4_write 25 = .ok (.aload_n 0, 1) := by decide +kernel
theorem dX4_write_26 : decode cX4_write 26 = .ok (.invokevirtual 41, 3) := by decide +kernel
theorem dX4_write_29 : decode cX4_write 29 = .ok (.aload_n 0, 1) := by decide +kernel
theorem dX4_write_30 : decode cX4_write 30 = .ok (.getfield 19, 3) := by decide +kernel
theorem dX4_write_33 : decode cX4_write 33 = .ok (.aload_n 0, 1) := by decide +kernel
theorem dX4_write_34 : decode cX4_write 34 = .ok (.getfield 10, 3) := by decide +kernel
theorem dX4_write_37 : decode cX4_write 37 = .ok (.invokevirtual 44, 3) := by decide +kernel
theorem dX4_write_40 : decode cX4_write 40 = .ok (.aload_n 0, 1) := by decide +kernel
theorem dX4_write_41 : decode cX4_write 41 = .ok (.getfield 10, 3) := by decide +kernel
theorem dX4_write_44 : decode cX4_write 44 = .ok (.iload_n 1, 1) := by decide +kernel
theorem dX4_write_45 : decode cX4_write 45 = .ok (.iload_n 2, 1) := by decide +kernel
theorem dX4_write_46 : decode cX4_write 46 = .ok (.invokevirtual 48, 3) := by decide +kernel
theorem dX4_write_49 : decode cX4_write 49 = .ok (.ireturn, 1) := by decide +kernel
set_option maxRecDepth 20000 in
theorem ggX4_read_X4_requireBlock : GoodIn wsX4_read wsX4_requireBlock := goodIn_ca (goodIn_r _ [6, 7, 8, 9, 10, 5, 11] (by decide +kernel) (by decide +kernel)) (goodIn_sub (fun _ h => List.mem_cons_of_mem _ (List.mem_append_left _ (List.mem_append_right _ h))) (by decide +kernel))
set_option maxRecDepth 20000 in
theorem gX4_read_X4_requireBlock : GoodIn wsX4_read (va_wsS RX4 30 yX4_requireBlock wsX4_requireBlock) := goodIn_app (goodIn_of _ (by decide +kernel)) ggX4_read_X4_requireBlock
set_option maxRecDepth 20000 in
theorem ggX4_read_X4_requirePower : GoodIn wsX4_read wsX4_requirePower := goodIn_ca (goodIn_r _ [15, 16, 17, 2, 18, 89, 90, 91, 92, 93, 94, 95, 96, 97, 98] (by decide +kernel) (by decide +kernel)) (goodIn_sub (fun _ h => List.mem_cons_of_mem _ (List.mem_append_right _ h)) (by decide +kernel))
set_option maxRecDepth 20000 in
theorem gX4_read_X4_requirePower : GoodIn wsX4_read (wsV RX4 41 RX4 yX4_requirePower wsX4_requirePower) := goodIn_app (goodIn_of _ (by decide +kernel)) ggX4_read_X4_requirePower
set_option maxRecDepth 20000 in
theorem ggX4_read_X0_save : GoodIn wsX4_read wsX0_save := goodIn_r _ [23, 24, 25, 26, 27, 28, 29, 30, 31, 32, 33, 34, 35, 36, 37, 38, 39, 40, 41, 42, 43, 44, 45, 46, 47, 48, 49, 50, 51, 52, 53, 54, 55, 56, 57, 58, 59, 60, 61, 62, 63, 64, 65, 99, 100, 101, 92, 93, 94, 95, 96, 97, 98, 102, 103, 104, 105, 106, 107, 108, 109, 110] (by decide +kernel) (by decide +kernel)
set_option maxRecDepth 20000 in
theorem gX4_read_X0_save : GoodIn wsX4_read (wsV RX4 44 RX0 yX0_save wsX0_save) := goodIn_app (goodIn_of _ (by decide +kernel)) ggX4_read_X0_save
set_option maxRecDepth 20000 in
theorem ggX4_read_X1_readBlock : GoodIn wsX4_read wsX1_readBlock := goodIn_r _ [69, 40, 48, 70, 71, 72, 73, 54, 74, 65, 75, 76, 77, 78, 56, 79, 5, 80, 81, 82, 83, 84, 62, 60, 85, 86, 87, 38, 88, 41, 10, 11, 92, 93, 94, 95, 96, 97, 98, 102, 103, 104, 105, 106, 107, 108, 109, 110] (by decide +kernel) (by decide +kernel)
set_option maxRecDepth 20000 in
theorem gX4_read_X1_readBlock : GoodIn wsX4_read (wsV RX4 52 RX1 yX1_readBlock wsX1_readBlock) := goodIn_app (goodIn_of _ (by decide +kernel)) ggX4_read_X1_readBlock
theorem dX4_read_0 : decode cX4_read 0 = .ok (.iload_n 1, 1) := by decide +kernel
theorem dX4_read_1 : decode cX4_read 1 = .ok (.invokestatic 30, 3) := by decide +kernel
theorem dX4_read_4 : decode cX4_read 4 = .ok (.aload_n 0, 1) := by decide +kernel
theorem dX4_read_5 : decode cX4_read 5 = .ok (.invokevirtual 41, 3) := by decide +kernel
theorem dX4_read_8 : decode cX4_read 8 = .ok (.aload_n 0, 1) := by decide +kernel
theorem dX4_read_9 : decode cX4_read 9 = .ok (.getfield 19, 3) := by decide +kernel
theorem dX4_read_12 : decode cX4_read 12 = .ok (.aload_n 0, 1) := by decide +kernel
theorem dX4_read_13 : decode cX4_read 13 = .ok (.getfield 10, 3) := by decide +kernel
theorem dX4_read_16 : decode cX4_read 16 = .ok (.invokevirtual 44, 3) := by decide +kernel
theorem dX4_read_19 : decode cX4_read 19 = .ok (.aload_n 0, 1) := by decide +kernel
theorem dX4_read_20 : decode cX4_read 20 = .ok (.getfield 10, 3) := by decide +kernel
theorem dX4_read_23 : decode cX4_read 23 = .ok (.iload_n 1, 1) := by decide +kernel
theorem dX4_read_24 : decode cX4_read 24 = .ok (.invokevirtual 52, 3) := by decide +kernel
theorem dX4_read_27 : decode cX4_read 27 = .ok (.ireturn, 1) := by decide +kernel
set_option maxRecDepth 20000 in
theorem ggX4_destage_X4_requireStripe : GoodIn wsX4_destage wsX4_requireStripe := goodIn_ca (goodIn_r _ [6, 7, 8] (by decide +kernel) (by decide +kernel)) (goodIn_sub (fun _ h => List.mem_cons_of_mem _ (List.mem_append_left _ (List.mem_append_right _ h))) (by decide +kernel))
set_option maxRecDepth 20000 in
theorem gX4_destage_X4_requireStripe : GoodIn wsX4_destage (va_wsS RX4 56 yX4_requireStripe wsX4_requireStripe) := goodIn_app (goodIn_of _ (by decide +kernel)) ggX4_destage_X4_requireStripe
set_option maxRecDepth 20000 in
theorem ggX4_destage_X4_requireDestaging : GoodIn wsX4_destage wsX4_requireDestaging := goodIn_ca (goodIn_r _ [12, 13, 14, 2, 15, 16, 17, 18, 19, 20, 21, 22, 95, 96, 97, 98, 99, 100, 101, 102, 103, 104, 105, 106, 107, 108, 109, 110, 111, 112, 113] (by decide +kernel) (by decide +kernel)) (goodIn_sub (fun _ h => List.mem_cons_of_mem _ (List.mem_append_right _ h)) (by decide +kernel))
set_option maxRecDepth 20000 in
theorem gX4_destage_X4_requireDestaging : GoodIn wsX4_destage (wsV RX4 59 RX4 yX4_requireDestaging wsX4_requireDestaging) := goodIn_app (goodIn_of _ (by decide +kernel)) ggX4_destage_X4_requireDestaging
set_option maxRecDepth 20000 in
theorem ggX4_destage_X0_save : GoodIn wsX4_destage wsX0_save := goodIn_r _ [27, 28, 29, 30, 31, 32, 33, 34, 35, 36, 37, 38, 39, 40, 41, 18, 42, 21, 43, 44, 45, 46, 47, 48, 49, 50, 51, 20, 52, 53, 54, 55, 56, 57, 58, 59, 60, 61, 62, 63, 64, 65, 66, 114, 115, 116, 98, 99, 100, 101, 102, 103, 104, 105, 106, 107, 108, 109, 110, 111, 112, 113] (by decide +kernel) (by decide +kernel)
set_option maxRecDepth 20000 in
theorem gX4_destage_X0_save : GoodIn wsX4_destage (wsV RX4 44 RX0 yX0_save wsX0_save) := goodIn_app (goodIn_of _ (by decide +kernel)) ggX4_destage_X0_save
set_option maxRecDepth 20000 in
theorem ggX4_destage_X1_destageStripe : GoodIn wsX4_destage wsX1_destageStripe := goodIn_r _ [70, 21, 71, 72, 73, 74, 50, 75, 76, 77, 55, 78, 62, 57, 79, 5, 80, 81, 82, 83, 18, 84, 43, 48, 85, 86, 87, 88, 89, 90, 91, 92, 93, 94, 98, 99, 100, 101, 102, 103, 104, 105, 106, 107, 108, 109, 110, 111, 112, 113] (by decide +kernel) (by decide +kernel)
set_option maxRecDepth 20000 in
theorem gX4_destage_X1_destageStripe : GoodIn wsX4_destage (wsV RX4 62 RX1 yX1_destageStripe wsX1_destageStripe) := goodIn_app (goodIn_of _ (by decide +kernel)) ggX4_destage_X1_destageStripe
theorem dX4_destage_0 : decode cX4_destage 0 = .ok (.iload_n 1, 1) := by decide +kernel
theorem dX4_destage_1 : decode cX4_destage 1 = .ok (.invokestatic 56, 3) := by decide +kernel
theorem dX4_destage_4 : decode cX4_destage 4 = .ok (.aload_n 0, 1) := by decide +kernel
theorem dX4_destage_5 : decode cX4_destage 5 = .ok (.invokevirtual 59, 3) := by decide +kernel
theorem dX4_destage_8 : decode cX4_destage 8 = .ok (.aload_n 0, 1) := by decide +kernel
theorem dX4_destage_9 : decode cX4_destage 9 = .ok (.getfield 19, 3) := by decide +kernel
theorem dX4_destage_12 : decode cX4_destage 12 = .ok (.aload_n 0, 1) := by decide +kernel
theorem dX4_destage_13 : decode cX4_destage 13 = .ok (.getfield 10, 3) := by decide +kernel
theorem dX4_destage_16 : decode cX4_destage 16 = .ok (.invokevirtual 44, 3) := by decide +kernel
theorem dX4_destage_19 : decode cX4_destage 19 = .ok (.aload_n 0, 1) := by decide +kernel
theorem dX4_destage_20 : decode cX4_destage 20 = .ok (.getfield 10, 3) := by decide +kernel
theorem dX4_destage_23 : decode cX4_destage 23 = .ok (.iload_n 1, 1) := by decide +kernel
theorem dX4_destage_24 : decode cX4_destage 24 = .ok (.invokevirtual 62, 3) := by decide +kernel
theorem dX4_destage_27 : decode cX4_destage 27 = .ok (.ireturn, 1) := by decide +kernel
set_option maxRecDepth 20000 in
theorem ggX4_destageAll_X4_requireDestaging : GoodIn wsX4_destageAll wsX4_requireDestaging := goodIn_ca (goodIn_r _ [7, 8, 9, 2, 10, 11, 12, 13, 14, 15, 16, 17, 94, 95, 96, 97, 98, 99, 100, 101, 102, 103, 104, 105, 106, 107, 108, 109, 110, 111, 112] (by decide +kernel) (by decide +kernel)) (goodIn_sub (fun _ h => List.mem_cons_of_mem _ (List.mem_append_right _ h)) (by decide +kernel))
set_option maxRecDepth 20000 in
theorem gX4_destageAll_X4_requireDestaging : GoodIn wsX4_destageAll (wsV RX4 59 RX4 yX4_requireDestaging wsX4_requireDestaging) := goodIn_app (goodIn_of _ (by decide +kernel)) ggX4_destageAll_X4_requireDestaging
set_option maxRecDepth 20000 in
theorem ggX4_destageAll_X0_save : GoodIn wsX4_destageAll wsX0_save := goodIn_r _ [22, 23, 24, 25, 26, 27, 28, 29, 30, 31, 32, 33, 34, 35, 36, 13, 37, 16, 38, 39, 40, 41, 42, 43, 44, 45, 46, 15, 47, 48, 49, 50, 51, 52, 53, 54, 55, 56, 57, 58, 59, 60, 61, 113, 114, 115, 97, 98, 99, 100, 101, 102, 103, 104, 105, 106, 107, 108, 109, 110, 111, 112] (by decide +kernel) (by decide +kernel)
set_option maxRecDepth 20000 in
theorem gX4_destageAll_X0_save : GoodIn wsX4_destageAll (wsV RX4 44 RX0 yX0_save wsX0_save) := goodIn_app (goodIn_of _ (by decide +kernel)) ggX4_destageAll_X0_save
set_option maxRecDepth 20000 in
theorem ggX4_destageAll_X1_destageStripes : GoodIn wsX4_destageAll wsX1_destageStripes := goodIn_r _ [65, 66, 67, 68, 13, 69, 16, 70, 71, 72, 73, 45, 74, 75, 76, 50, 77, 57, 52, 78, 6, 79, 80, 81, 82, 83, 38, 43, 84, 85, 86, 87, 88, 89, 90, 91, 92, 93, 97, 98, 99, 100, 101, 102, 103, 104, 105, 106, 107, 108, 109, 110, 111, 112] (by decide +kernel) (by decide +kernel)
set_option maxRecDepth 20000 in
theorem gX4_destageAll_X1_destageStripes : GoodIn wsX4_destageAll (wsV RX4 65 RX1 yX1_destageStripes wsX1_destageStripes) := goodIn_app (goodIn_of _ (by decide +kernel)) ggX4_destageAll_X1_destageStripes
theorem dX4_destageAll_0 : decode cX4_destageAll 0 = .ok (.aload_n 0, 1) := by decide +kernel
theorem dX4_destageAll_1 : decode cX4_destageAll 1 = .ok (.invokevirtual 59, 3) := by decide +kernel
theorem dX4_destageAll_4 : decode cX4_destageAll 4 = .ok (.aload_n 0, 1) := by decide +kernel
theorem dX4_destageAll_5 : decode cX4_destageAll 5 = .ok (.getfield 19, 3) := by decide +kernel
theorem dX4_destageAll_8 : decode cX4_destageAll 8 = .ok (.aload_n 0, 1) := by decide +kernel
theorem dX4_destageAll_9 : decode cX4_destageAll 9 = .ok (.getfield 10, 3) := by decide +kernel
theorem dX4_destageAll_12 : decode cX4_destageAll 12 = .ok (.invokevirtual 44, 3) := by decide +kernel
theorem dX4_destageAll_15 : decode cX4_destageAll 15 = .ok (.aload_n 0, 1) := by decide +kernel
theorem dX4_destageAll_16 : decode cX4_destageAll 16 = .ok (.getfield 10, 3) := by decide +kernel
theorem dX4_destageAll_19 : decode cX4_destageAll 19 = .ok (.invokevirtual 65, 3) := by decide +kernel
theorem dX4_destageAll_22 : decode cX4_destageAll 22 = .ok (.ireturn, 1) := by decide +kernel
set_option maxRecDepth 20000 in
theorem ggX4_pass_X0_save : GoodIn wsX4_pass wsX0_save := goodIn_r _ [11, 12, 13, 14, 15, 16, 17, 18, 19, 20, 21, 22, 23, 24, 25, 26, 27, 28, 29, 30, 31, 32, 33, 34, 35, 36, 37, 38, 39, 40, 41, 42, 43, 44, 45, 46, 47, 48, 49, 50, 51, 52, 53, 105, 106, 107, 89, 90, 91, 92, 93, 94, 95, 96, 97, 98, 99, 100, 101, 102, 103, 104] (by decide +kernel) (by decide +kernel)
set_option maxRecDepth 20000 in
theorem gX4_pass_X0_save : GoodIn wsX4_pass (wsV RX4 44 RX0 yX0_save wsX0_save) := goodIn_app (goodIn_of _ (by decide +kernel)) ggX4_pass_X0_save
set_option maxRecDepth 20000 in
theorem ggX4_pass_X1_letPass : GoodIn wsX4_pass wsX1_letPass := goodIn_r _ [57, 28, 36, 58, 59, 60, 26, 61, 38, 62, 63, 64, 65, 42, 66, 52, 51, 67, 16, 17, 18, 68, 69, 70, 71, 72, 73, 74, 75, 76, 77, 78, 49, 79, 80, 81, 82, 44, 83, 84, 85, 89, 90, 91, 92, 93, 94, 95, 96, 97, 98, 99, 100, 101, 102, 103, 104] (by decide +kernel) (by decide +kernel)
set_option maxRecDepth 20000 in
theorem gX4_pass_X1_letPass : GoodIn wsX4_pass (wsV RX4 71 RX1 yX1_letPass wsX1_letPass) := goodIn_app (goodIn_of _ (by decide +kernel)) ggX4_pass_X1_letPass
theorem dX4_pass_0 : decode cX4_pass 0 = .ok (.iload_n 1, 1) := by decide +kernel
theorem dX4_pass_1 : decode cX4_pass 1 = .ok (.iconst 1, 1) := by decide +kernel
theorem dX4_pass_2 : decode cX4_pass 2 = .ok (.if_icmp .lt 9, 3) := by decide +kernel
theorem dX4_pass_5 : decode cX4_pass 5 = .ok (.iload_n 1, 1) := by decide +kernel
theorem dX4_pass_6 : decode cX4_pass 6 = .ok (.bipush 99, 2) := by decide +kernel
theorem dX4_pass_8 : decode cX4_pass 8 = .ok (.if_icmp .le 13, 3) := by decide +kernel
theorem dX4_pass_11 : decode cX4_pass 11 = .ok (.new 34, 3) := by decide +kernel
theorem dX4_pass_14 : decode cX4_pass 14 = .ok (.dup, 1) := by decide +kernel
theorem dX4_pass_15 : decode cX4_pass 15 = .ok (.ldc 69, 2) := by decide +kernel
theorem dX4_pass_17 : decode cX4_pass 17 = .ok (.invokespecial 38, 3) := by decide +kernel
theorem dX4_pass_20 : decode cX4_pass 20 = .ok (.athrow, 1) := by decide +kernel
theorem dX4_pass_21 : decode cX4_pass 21 = .ok (.aload_n 0, 1) := by decide +kernel
theorem dX4_pass_22 : decode cX4_pass 22 = .ok (.getfield 19, 3) := by decide +kernel
theorem dX4_pass_25 : decode cX4_pass 25 = .ok (.aload_n 0, 1) := by decide +kernel
theorem dX4_pass_26 : decode cX4_pass 26 = .ok (.getfield 10, 3) := by decide +kernel
theorem dX4_pass_29 : decode cX4_pass 29 = .ok (.invokevirtual 44, 3) := by decide +kernel
theorem dX4_pass_32 : decode cX4_pass 32 = .ok (.aload_n 0, 1) := by decide +kernel
theorem dX4_pass_33 : decode cX4_pass 33 = .ok (.getfield 10, 3) := by decide +kernel
theorem dX4_pass_36 : decode cX4_pass 36 = .ok (.iload_n 1, 1) := by decide +kernel
theorem dX4_pass_37 : decode cX4_pass 37 = .ok (.invokevirtual 71, 3) := by decide +kernel
theorem dX4_pass_40 : decode cX4_pass 40 = .ok (.aload_n 0, 1) := by decide +kernel
theorem dX4_pass_41 : decode cX4_pass 41 = .ok (.getfield 10, 3) := by decide +kernel
theorem dX4_pass_44 : decode cX4_pass 44 = .ok (.getfield 74, 3) := by decide +kernel
theorem dX4_pass_47 : decode cX4_pass 47 = .ok (.getfield 78, 3) := by decide +kernel
theorem dX4_pass_50 : decode cX4_pass 50 = .ok (.ireturn, 1) := by decide +kernel
set_option maxRecDepth 20000 in
theorem ggX4_setLimit_X0_save : GoodIn wsX4_setLimit wsX0_save := goodIn_r _ [11, 12, 13, 14, 15, 16, 17, 18, 19, 20, 21, 22, 23, 24, 25, 26, 27, 28, 29, 30, 31, 32, 33, 34, 35, 36, 37, 38, 39, 40, 41, 42, 43, 44, 45, 46, 47, 48, 49, 50, 51, 52, 53, 78, 79, 80, 62, 63, 64, 65, 66, 67, 68, 69, 70, 71, 72, 73, 74, 75, 76, 77] (by decide +kernel) (by decide +kernel)
set_option maxRecDepth 20000 in
theorem gX4_setLimit_X0_save : GoodIn wsX4_setLimit (wsV RX4 44 RX0 yX0_save wsX0_save) := goodIn_app (goodIn_of _ (by decide +kernel)) ggX4_setLimit_X0_save
set_option maxRecDepth 20000 in
theorem ggX4_setLimit_X2_limitTo : GoodIn wsX4_setLimit wsX2_limitTo := goodIn_r _ [57, 51, 52, 58, 16, 17, 18, 69, 70, 71, 72, 73, 74, 75, 76, 77] (by decide +kernel) (by decide +kernel)
set_option maxRecDepth 20000 in
theorem gX4_setLimit_X2_limitTo : GoodIn wsX4_setLimit (wsV RX4 86 RX2 yX2_limitTo wsX2_limitTo) := goodIn_app (goodIn_of _ (by decide +kernel)) ggX4_setLimit_X2_limitTo
theorem dX4_setLimit_0 : decode cX4_setLimit 0 = .ok (.iload_n 1, 1) := by decide +kernel
theorem dX4_setLimit_1 : decode cX4_setLimit 1 = .ok (.iconst 1, 1) := by decide +kernel
theorem dX4_setLimit_2 : decode cX4_setLimit 2 = .ok (.if_icmp .lt 9, 3) := by decide +kernel
theorem dX4_setLimit_5 : decode cX4_setLimit 5 = .ok (.iload_n 1, 1) := by decide +kernel
theorem dX4_setLimit_6 : decode cX4_setLimit 6 = .ok (.bipush 100, 2) := by decide +kernel
theorem dX4_setLimit_8 : decode cX4_setLimit 8 = .ok (.if_icmp .le 13, 3) := by decide +kernel
theorem dX4_setLimit_11 : decode cX4_setLimit 11 = .ok (.new 34, 3) := by decide +kernel
theorem dX4_setLimit_14 : decode cX4_setLimit 14 = .ok (.dup, 1) := by decide +kernel
theorem dX4_setLimit_15 : decode cX4_setLimit 15 = .ok (.ldc 84, 2) := by decide +kernel
theorem dX4_setLimit_17 : decode cX4_setLimit 17 = .ok (.invokespecial 38, 3) := by decide +kernel
theorem dX4_setLimit_20 : decode cX4_setLimit 20 = .ok (.athrow, 1) := by decide +kernel
theorem dX4_setLimit_21 : decode cX4_setLimit 21 = .ok (.aload_n 0, 1) := by decide +kernel
theorem dX4_setLimit_22 : decode cX4_setLimit 22 = .ok (.getfield 19, 3) := by decide +kernel
theorem dX4_setLimit_25 : decode cX4_setLimit 25 = .ok (.aload_n 0, 1) := by decide +kernel
theorem dX4_setLimit_26 : decode cX4_setLimit 26 = .ok (.getfield 10, 3) := by decide +kernel
theorem dX4_setLimit_29 : decode cX4_setLimit 29 = .ok (.invokevirtual 44, 3) := by decide +kernel
theorem dX4_setLimit_32 : decode cX4_setLimit 32 = .ok (.aload_n 0, 1) := by decide +kernel
theorem dX4_setLimit_33 : decode cX4_setLimit 33 = .ok (.getfield 10, 3) := by decide +kernel
theorem dX4_setLimit_36 : decode cX4_setLimit 36 = .ok (.getfield 74, 3) := by decide +kernel
theorem dX4_setLimit_39 : decode cX4_setLimit 39 = .ok (.iload_n 1, 1) := by decide +kernel
theorem dX4_setLimit_40 : decode cX4_setLimit 40 = .ok (.invokevirtual 86, 3) := by decide +kernel
theorem dX4_setLimit_43 : decode cX4_setLimit 43 = .ok (.aload_n 0, 1) := by decide +kernel
theorem dX4_setLimit_44 : decode cX4_setLimit 44 = .ok (.getfield 10, 3) := by decide +kernel
theorem dX4_setLimit_47 : decode cX4_setLimit 47 = .ok (.getfield 74, 3) := by decide +kernel
theorem dX4_setLimit_50 : decode cX4_setLimit 50 = .ok (.getfield 78, 3) := by decide +kernel
theorem dX4_setLimit_53 : decode cX4_setLimit 53 = .ok (.ireturn, 1) := by decide +kernel
set_option maxRecDepth 20000 in
theorem ggX4_power_X0_save : GoodIn wsX4_power wsX0_save := goodIn_r _ [7, 8, 9, 10, 11, 12, 13, 14, 15, 16, 17, 18, 19, 20, 21, 22, 23, 24, 25, 26, 27, 28, 29, 30, 31, 32, 33, 34, 35, 36, 37, 38, 39, 40, 41, 42, 43, 44, 45, 46, 47, 48, 49, 92, 93, 94, 95, 96, 97, 98, 99, 100, 101, 102, 103, 104, 105, 106, 107, 108, 109, 110] (by decide +kernel) (by decide +kernel)
set_option maxRecDepth 20000 in
theorem gX4_power_X0_save : GoodIn wsX4_power (wsV RX4 44 RX0 yX0_save wsX0_save) := goodIn_app (goodIn_of _ (by decide +kernel)) ggX4_power_X0_save
set_option maxRecDepth 20000 in
theorem ggX4_power_X1_switchPower : GoodIn wsX4_power wsX1_switchPower := goodIn_r _ [53, 34, 24, 54, 55, 56, 57, 58, 22, 59, 60, 61, 62, 63, 64, 65, 66, 67, 32, 68, 69, 70, 38, 71, 45, 40, 72, 73, 74, 75, 76, 77, 78, 25, 30, 79, 80, 81, 82, 83, 84, 85, 86, 87, 88, 95, 96, 97, 98, 99, 100, 101, 102, 103, 104, 105, 106, 107, 108, 109, 110] (by decide +kernel) (by decide +kernel)
set_option maxRecDepth 20000 in
theorem gX4_power_X1_switchPower : GoodIn wsX4_power (wsV RX4 89 RX1 yX1_switchPower wsX1_switchPower) := goodIn_app (goodIn_of _ (by decide +kernel)) ggX4_power_X1_switchPower
theorem dX4_power_0 : decode cX4_power 0 = .ok (.aload_n 0, 1) := by decide +kernel
theorem dX4_power_1 : decode cX4_power 1 = .ok (.getfield 19, 3) := by decide +kernel
theorem dX4_power_4 : decode cX4_power 4 = .ok (.aload_n 0, 1) := by decide +kernel
theorem dX4_power_5 : decode cX4_power 5 = .ok (.getfield 10, 3) := by decide +kernel
theorem dX4_power_8 : decode cX4_power 8 = .ok (.invokevirtual 44, 3) := by decide +kernel
theorem dX4_power_11 : decode cX4_power 11 = .ok (.aload_n 0, 1) := by decide +kernel
theorem dX4_power_12 : decode cX4_power 12 = .ok (.getfield 10, 3) := by decide +kernel
theorem dX4_power_15 : decode cX4_power 15 = .ok (.iload_n 1, 1) := by decide +kernel
theorem dX4_power_16 : decode cX4_power 16 = .ok (.invokevirtual 89, 3) := by decide +kernel
theorem dX4_power_19 : decode cX4_power 19 = .ok (.ireturn, 1) := by decide +kernel
set_option maxRecDepth 20000 in
theorem ggX4_moveStick_X0_save : GoodIn wsX4_moveStick wsX0_save := goodIn_r _ [10, 11, 12, 13, 14, 15, 16, 17, 18, 19, 20, 21, 22, 23, 24, 25, 26, 27, 28, 29, 30, 31, 32, 33, 34, 35, 36, 37, 38, 39, 40, 41, 42, 43, 44, 45, 46, 47, 48, 49, 50, 51, 52, 83, 84, 85, 76, 77, 78, 79, 80, 81, 82, 86, 87, 88, 89, 90, 91, 92, 93, 94] (by decide +kernel) (by decide +kernel)
set_option maxRecDepth 20000 in
theorem gX4_moveStick_X0_save : GoodIn wsX4_moveStick (wsV RX4 44 RX0 yX0_save wsX0_save) := goodIn_app (goodIn_of _ (by decide +kernel)) ggX4_moveStick_X0_save
set_option maxRecDepth 20000 in
theorem ggX4_moveStick_X1_placeStick : GoodIn wsX4_moveStick wsX1_placeStick := goodIn_r _ [56, 27, 57, 58, 59, 60, 25, 61, 62, 63, 33, 64, 65, 66, 67, 68, 69, 41, 70, 43, 48, 71, 72, 76, 77, 78, 79, 80, 81, 82, 86, 87, 88, 89, 90, 91, 92, 93, 94] (by decide +kernel) (by decide +kernel)
set_option maxRecDepth 20000 in
theorem gX4_moveStick_X1_placeStick : GoodIn wsX4_moveStick (wsV RX4 102 RX1 yX1_placeStick wsX1_placeStick) := goodIn_app (goodIn_of _ (by decide +kernel)) ggX4_moveStick_X1_placeStick
theorem dX4_moveStick_0 : decode cX4_moveStick 0 = .ok (.aload_n 0, 1) := by decide +kernel
theorem dX4_moveStick_1 : decode cX4_moveStick 1 = .ok (.getfield 10, 3) := by decide +kernel
theorem dX4_moveStick_4 : decode cX4_moveStick 4 = .ok (.getfield 93, 3) := by decide +kernel
theorem dX4_moveStick_7 : decode cX4_moveStick 7 = .ok (.ifCond .eq 13, 3) := by decide +kernel
theorem dX4_moveStick_10 : decode cX4_moveStick 10 = .ok (.new 97, 3) := by decide +kernel
theorem dX4_moveStick_13 : decode cX4_moveStick 13 = .ok (.dup, 1) := by decide +kernel
theorem dX4_moveStick_14 : decode cX4_moveStick 14 = .ok (.ldc 99, 2) := by decide +kernel
theorem dX4_moveStick_16 : decode cX4_moveStick 16 = .ok (.invokespecial 101, 3) := by decide +kernel
theorem dX4_moveStick_19 : decode cX4_moveStick 19 = .ok (.athrow, 1) := by decide +kernel
theorem dX4_moveStick_20 : decode cX4_moveStick 20 = .ok (.aload_n 0, 1) := by decide +kernel
theorem dX4_moveStick_21 : decode cX4_moveStick 21 = .ok (.getfield 19, 3) := by decide +kernel
theorem dX4_moveStick_24 : decode cX4_moveStick 24 = .ok (.aload_n 0, 1) := by decide +kernel
theorem dX4_moveStick_25 : decode cX4_moveStick 25 = .ok (.getfield 10, 3) := by decide +kernel
theorem dX4_moveStick_28 : decode cX4_moveStick 28 = .ok (.invokevirtual 44, 3) := by decide +kernel
theorem dX4_moveStick_31 : decode cX4_moveStick 31 = .ok (.aload_n 0, 1) := by decide +kernel
theorem dX4_moveStick_32 : decode cX4_moveStick 32 = .ok (.getfield 10, 3) := by decide +kernel
theorem dX4_moveStick_35 : decode cX4_moveStick 35 = .ok (.iload_n 1, 1) := by decide +kernel
theorem dX4_moveStick_36 : decode cX4_moveStick 36 = .ok (.invokevirtual 102, 3) := by decide +kernel
theorem dX4_moveStick_39 : decode cX4_moveStick 39 = .ok (.ireturn, 1) := by decide +kernel
set_option maxRecDepth 20000 in
theorem ggX4_undo_X0_restore : GoodIn wsX4_undo wsX0_restore := goodIn_r _ [10, 11, 12, 13, 14, 15, 16, 17, 18, 19, 20, 21, 22, 23, 24, 25, 26, 27, 28, 29, 30, 31, 32, 33, 34, 35, 36, 37, 38, 39, 40, 41, 42, 43, 44, 45, 46, 47, 48, 49, 50, 51, 52, 56, 57, 58, 59, 60, 61, 62, 63, 64, 65, 66, 67, 68, 69, 70, 71, 72, 73, 74] (by decide +kernel) (by decide +kernel)
set_option maxRecDepth 20000 in
theorem gX4_undo_X0_restore : GoodIn wsX4_undo (wsV RX4 140 RX0 yX0_restore wsX0_restore) := goodIn_app (goodIn_of _ (by decide +kernel)) ggX4_undo_X0_restore
theorem dX4_undo_0 : decode cX4_undo 0 = .ok (.aload_n 0, 1) := by decide +kernel
theorem dX4_undo_1 : decode cX4_undo 1 = .ok (.getfield 19, 3) := by decide +kernel
theorem dX4_undo_4 : decode cX4_undo 4 = .ok (.getfield 135, 3) := by decide +kernel
theorem dX4_undo_7 : decode cX4_undo 7 = .ok (.ifCond .ne 13, 3) := by decide +kernel
theorem dX4_undo_10 : decode cX4_undo 10 = .ok (.new 97, 3) := by decide +kernel
theorem dX4_undo_13 : decode cX4_undo 13 = .ok (.dup, 1) := by decide +kernel
theorem dX4_undo_14 : decode cX4_undo 14 = .ok (.ldc 138, 2) := by decide +kernel
theorem dX4_undo_16 : decode cX4_undo 16 = .ok (.invokespecial 101, 3) := by decide +kernel
theorem dX4_undo_19 : decode cX4_undo 19 = .ok (.athrow, 1) := by decide +kernel
theorem dX4_undo_20 : decode cX4_undo 20 = .ok (.aload_n 0, 1) := by decide +kernel
theorem dX4_undo_21 : decode cX4_undo 21 = .ok (.getfield 19, 3) := by decide +kernel
theorem dX4_undo_24 : decode cX4_undo 24 = .ok (.aload_n 0, 1) := by decide +kernel
theorem dX4_undo_25 : decode cX4_undo 25 = .ok (.getfield 10, 3) := by decide +kernel
theorem dX4_undo_28 : decode cX4_undo 28 = .ok (.invokevirtual 140, 3) := by decide +kernel
theorem dX4_undo_31 : decode cX4_undo 31 = .ok (.aload_n 0, 1) := by decide +kernel
theorem dX4_undo_32 : decode cX4_undo 32 = .ok (.getfield 19, 3) := by decide +kernel
theorem dX4_undo_35 : decode cX4_undo 35 = .ok (.getfield 135, 3) := by decide +kernel
theorem dX4_undo_38 : decode cX4_undo 38 = .ok (.ireturn, 1) := by decide +kernel
theorem dX4_isOn_0 : decode cX4_isOn 0 = .ok (.aload_n 0, 1) := by decide +kernel
theorem dX4_isOn_1 : decode cX4_isOn 1 = .ok (.getfield 10, 3) := by decide +kernel
theorem dX4_isOn_4 : decode cX4_isOn 4 = .ok (.getfield 93, 3) := by decide +kernel
theorem dX4_isOn_7 : decode cX4_isOn 7 = .ok (.ireturn, 1) := by decide +kernel
theorem dX4_isIn_0 : decode cX4_isIn 0 = .ok (.aload_n 0, 1) := by decide +kernel
theorem dX4_isIn_1 : decode cX4_isIn 1 = .ok (.getfield 10, 3) := by decide +kernel
theorem dX4_isIn_4 : decode cX4_isIn 4 = .ok (.getfield 74, 3) := by decide +kernel
theorem dX4_isIn_7 : decode cX4_isIn 7 = .ok (.getfield 143, 3) := by decide +kernel
theorem dX4_isIn_10 : decode cX4_isIn 10 = .ok (.ireturn, 1) := by decide +kernel
theorem dX4_charge_0 : decode cX4_charge 0 = .ok (.aload_n 0, 1) := by decide +kernel
theorem dX4_charge_1 : decode cX4_charge 1 = .ok (.getfield 10, 3) := by decide +kernel
theorem dX4_charge_4 : decode cX4_charge 4 = .ok (.getfield 74, 3) := by decide +kernel
theorem dX4_charge_7 : decode cX4_charge 7 = .ok (.getfield 78, 3) := by decide +kernel
theorem dX4_charge_10 : decode cX4_charge 10 = .ok (.ireturn, 1) := by decide +kernel
set_option maxRecDepth 20000 in
theorem ggX4_line_X2_partOf : GoodIn wsX4_line wsX2_partOf := goodIn_r _ [11, 12, 13, 14, 15, 16, 17, 18, 19, 30, 31, 32, 33, 34, 35, 36, 37, 38] (by decide +kernel) (by decide +kernel)
set_option maxRecDepth 20000 in
theorem gX4_line_X2_partOf : GoodIn wsX4_line (wsV RX4 153 RX2 yX2_partOf wsX2_partOf) := goodIn_app (goodIn_of _ (by decide +kernel)) ggX4_line_X2_partOf
theorem dX4_line_0 : decode cX4_line 0 = .ok (.iload_n 1, 1) := by decide +kernel
theorem dX4_line_1 : decode cX4_line 1 = .ok (.ifCond .lt 17, 3) := by decide +kernel
theorem dX4_line_4 : decode cX4_line 4 = .ok (.iload_n 1, 1) := by decide +kernel
theorem dX4_line_5 : decode cX4_line 5 = .ok (.iconst 4, 1) := by decide +kernel
theorem dX4_line_6 : decode cX4_line 6 = .ok (.if_icmp .ge 12, 3) := by decide +kernel
theorem dX4_line_9 : decode cX4_line 9 = .ok (.iload_n 2, 1) := by decide +kernel
theorem dX4_line_10 : decode cX4_line 10 = .ok (.ifCond .lt 8, 3) := by decide +kernel
theorem dX4_line_13 : decode cX4_line 13 = .ok (.iload_n 2, 1) := by decide +kernel
theorem dX4_line_14 : decode cX4_line 14 = .ok (.iconst 3, 1) := by decide +kernel
theorem dX4_line_15 : decode cX4_line 15 = .ok (.if_icmp .lt 13, 3) := by decide +kernel
theorem dX4_line_18 : decode cX4_line 18 = .ok (.new 146, 3) := by decide +kernel
theorem dX4_line_21 : decode cX4_line 21 = .ok (.dup, 1) := by decide +kernel
theorem dX4_line_22 : decode cX4_line 22 = .ok (.ldc 148, 2) := by decide +kernel
theorem dX4_line_24 : decode cX4_line 24 = .ok (.invokespecial 150, 3) := by decide +kernel
theorem dX4_line_27 : decode cX4_line 27 = .ok (.athrow, 1) := by decide +kernel
theorem dX4_line_28 : decode cX4_line 28 = .ok (.iload_n 3, 1) := by decide +kernel
theorem dX4_line_29 : decode cX4_line 29 = .ok (.ifCond .lt 8, 3) := by decide +kernel
theorem dX4_line_32 : decode cX4_line 32 = .ok (.iload_n 3, 1) := by decide +kernel
theorem dX4_line_33 : decode cX4_line 33 = .ok (.iconst 4, 1) := by decide +kernel
theorem dX4_line_34 : decode cX4_line 34 = .ok (.if_icmp .le 13, 3) := by decide +kernel
theorem dX4_line_37 : decode cX4_line 37 = .ok (.new 34, 3) := by decide +kernel
theorem dX4_line_40 : decode cX4_line 40 = .ok (.dup, 1) := by decide +kernel
theorem dX4_line_41 : decode cX4_line 41 = .ok (.ldc 151, 2) := by decide +kernel
theorem dX4_line_43 : decode cX4_line 43 = .ok (.invokespecial 38, 3) := by decide +kernel
theorem dX4_line_46 : decode cX4_line 46 = .ok (.athrow, 1) := by decide +kernel
theorem dX4_line_47 : decode cX4_line 47 = .ok (.aload_n 0, 1) := by decide +kernel
theorem dX4_line_48 : decode cX4_line 48 = .ok (.getfield 10, 3) := by decide +kernel
theorem dX4_line_51 : decode cX4_line 51 = .ok (.getfield 74, 3) := by decide +kernel
theorem dX4_line_54 : decode cX4_line 54 = .ok (.iload_n 1, 1) := by decide +kernel
theorem dX4_line_55 : decode cX4_line 55 = .ok (.iconst 3, 1) := by decide +kernel
theorem dX4_line_56 : decode cX4_line 56 = .ok (.imul, 1) := by decide +kernel
theorem dX4_line_57 : decode cX4_line 57 = .ok (.iload_n 2, 1) := by decide +kernel
theorem dX4_line_58 : decode cX4_line 58 = .ok (.iadd, 1) := by decide +kernel
theorem dX4_line_59 : decode cX4_line 59 = .ok (.iload_n 3, 1) := by decide +kernel
theorem dX4_line_60 : decode cX4_line 60 = .ok (.invokevirtual 153, 3) := by decide +kernel
theorem dX4_line_63 : decode cX4_line 63 = .ok (.ireturn, 1) := by decide +kernel
set_option maxRecDepth 20000 in
theorem ggX4_dirtyOf_X4_requireStripe : GoodIn wsX4_dirtyOf wsX4_requireStripe := goodIn_ca (goodIn_r _ [6, 7, 8] (by decide +kernel) (by decide +kernel)) (goodIn_sub (fun _ h => List.mem_cons_of_mem _ (List.mem_append_right _ h)) (by decide +kernel))
set_option maxRecDepth 20000 in
theorem gX4_dirtyOf_X4_requireStripe : GoodIn wsX4_dirtyOf (va_wsS RX4 56 yX4_requireStripe wsX4_requireStripe) := goodIn_app (goodIn_of _ (by decide +kernel)) ggX4_dirtyOf_X4_requireStripe
set_option maxRecDepth 20000 in
theorem ggX4_dirtyOf_X2_dirtyLinesOf : GoodIn wsX4_dirtyOf wsX2_dirtyLinesOf := goodIn_r _ [13, 14, 15, 16, 12, 17, 18, 19, 20, 5, 21, 32, 33, 34, 35, 36, 37, 38, 39, 40] (by decide +kernel) (by decide +kernel)
set_option maxRecDepth 20000 in
theorem gX4_dirtyOf_X2_dirtyLinesOf : GoodIn wsX4_dirtyOf (wsV RX4 156 RX2 yX2_dirtyLinesOf wsX2_dirtyLinesOf) := goodIn_app (goodIn_of _ (by decide +kernel)) ggX4_dirtyOf_X2_dirtyLinesOf
theorem dX4_dirtyOf_0 : decode cX4_dirtyOf 0 = .ok (.iload_n 1, 1) := by decide +kernel
theorem dX4_dirtyOf_1 : decode cX4_dirtyOf 1 = .ok (.invokestatic 56, 3) := by decide +kernel
theorem dX4_dirtyOf_4 : decode cX4_dirtyOf 4 = .ok (.aload_n 0, 1) := by decide +kernel
theorem dX4_dirtyOf_5 : decode cX4_dirtyOf 5 = .ok (.getfield 10, 3) := by decide +kernel
theorem dX4_dirtyOf_8 : decode cX4_dirtyOf 8 = .ok (.getfield 74, 3) := by decide +kernel
theorem dX4_dirtyOf_11 : decode cX4_dirtyOf 11 = .ok (.iload_n 1, 1) := by decide +kernel
theorem dX4_dirtyOf_12 : decode cX4_dirtyOf 12 = .ok (.invokevirtual 156, 3) := by decide +kernel
theorem dX4_dirtyOf_15 : decode cX4_dirtyOf 15 = .ok (.ireturn, 1) := by decide +kernel
set_option maxRecDepth 20000 in
theorem ggX4_dirty_X2_dirtyLines : GoodIn wsX4_dirty wsX2_dirtyLines := goodIn_r _ [7, 8, 19, 20, 21, 22, 23, 24, 25, 26, 27] (by decide +kernel) (by decide +kernel)
set_option maxRecDepth 20000 in
theorem gX4_dirty_X2_dirtyLines : GoodIn wsX4_dirty (wsV RX4 159 RX2 yX2_dirtyLines wsX2_dirtyLines) := goodIn_app (goodIn_of _ (by decide +kernel)) ggX4_dirty_X2_dirtyLines
theorem dX4_dirty_0 : decode cX4_dirty 0 = .ok (.aload_n 0, 1) := by decide +kernel
theorem dX4_dirty_1 : decode cX4_dirty 1 = .ok (.getfield 10, 3) := by decide +kernel
theorem dX4_dirty_4 : decode cX4_dirty 4 = .ok (.getfield 74, 3) := by decide +kernel
theorem dX4_dirty_7 : decode cX4_dirty 7 = .ok (.invokevirtual 159, 3) := by decide +kernel
theorem dX4_dirty_10 : decode cX4_dirty 10 = .ok (.ireturn, 1) := by decide +kernel
set_option maxRecDepth 20000 in
theorem ggX4_used_X2_usedLines : GoodIn wsX4_used wsX2_usedLines := goodIn_r _ [7, 8, 19, 20, 21, 22, 23, 24, 25, 26, 27] (by decide +kernel) (by decide +kernel)
set_option maxRecDepth 20000 in
theorem gX4_used_X2_usedLines : GoodIn wsX4_used (wsV RX4 162 RX2 yX2_usedLines wsX2_usedLines) := goodIn_app (goodIn_of _ (by decide +kernel)) ggX4_used_X2_usedLines
theorem dX4_used_0 : decode cX4_used 0 = .ok (.aload_n 0, 1) := by decide +kernel
theorem dX4_used_1 : decode cX4_used 1 = .ok (.getfield 10, 3) := by decide +kernel
theorem dX4_used_4 : decode cX4_used 4 = .ok (.getfield 74, 3) := by decide +kernel
theorem dX4_used_7 : decode cX4_used 7 = .ok (.invokevirtual 162, 3) := by decide +kernel
theorem dX4_used_10 : decode cX4_used 10 = .ok (.ireturn, 1) := by decide +kernel
set_option maxRecDepth 20000 in
theorem ggX4_onDisk_X4_requireBlock : GoodIn wsX4_onDisk wsX4_requireBlock := goodIn_ca (goodIn_r _ [5, 6, 7, 8, 9, 4, 10] (by decide +kernel) (by decide +kernel)) (goodIn_sub (fun _ h => List.mem_cons_of_mem _ (List.mem_append_right _ h)) (by decide +kernel))
set_option maxRecDepth 20000 in
theorem gX4_onDisk_X4_requireBlock : GoodIn wsX4_onDisk (va_wsS RX4 30 yX4_requireBlock wsX4_requireBlock) := goodIn_app (goodIn_of _ (by decide +kernel)) ggX4_onDisk_X4_requireBlock
set_option maxRecDepth 20000 in
theorem ggX4_onDisk_X1_diskValueOf : GoodIn wsX4_onDisk wsX1_diskValueOf := goodIn_r _ [15, 16, 9, 4, 10, 20, 21, 22, 23, 24, 25, 26] (by decide +kernel) (by decide +kernel)
set_option maxRecDepth 20000 in
theorem gX4_onDisk_X1_diskValueOf : GoodIn wsX4_onDisk (wsV RX4 165 RX1 yX1_diskValueOf wsX1_diskValueOf) := goodIn_app (goodIn_of _ (by decide +kernel)) ggX4_onDisk_X1_diskValueOf
theorem dX4_onDisk_0 : decode cX4_onDisk 0 = .ok (.iload_n 1, 1) := by decide +kernel
theorem dX4_onDisk_1 : decode cX4_onDisk 1 = .ok (.invokestatic 30, 3) := by decide +kernel
theorem dX4_onDisk_4 : decode cX4_onDisk 4 = .ok (.aload_n 0, 1) := by decide +kernel
theorem dX4_onDisk_5 : decode cX4_onDisk 5 = .ok (.getfield 10, 3) := by decide +kernel
theorem dX4_onDisk_8 : decode cX4_onDisk 8 = .ok (.iload_n 1, 1) := by decide +kernel
theorem dX4_onDisk_9 : decode cX4_onDisk 9 = .ok (.invokevirtual 165, 3) := by decide +kernel
theorem dX4_onDisk_12 : decode cX4_onDisk 12 = .ok (.ireturn, 1) := by decide +kernel
set_option maxRecDepth 20000 in
theorem ggX4_isFound_X4_requireBlock : GoodIn wsX4_isFound wsX4_requireBlock := goodIn_ca (goodIn_r _ [5, 6, 7, 8, 9, 4, 10] (by decide +kernel) (by decide +kernel)) (goodIn_sub (fun _ h => List.mem_cons_of_mem _ (List.mem_append_right _ h)) (by decide +kernel))
set_option maxRecDepth 20000 in
theorem gX4_isFound_X4_requireBlock : GoodIn wsX4_isFound (va_wsS RX4 30 yX4_requireBlock wsX4_requireBlock) := goodIn_app (goodIn_of _ (by decide +kernel)) ggX4_isFound_X4_requireBlock
set_option maxRecDepth 20000 in
theorem ggX4_isFound_X1_finds : GoodIn wsX4_isFound wsX1_finds := goodIn_r _ [15, 16, 17, 18, 19, 9, 4, 10, 20, 21, 22, 23, 24, 25, 26, 27, 28, 29, 30, 31, 32, 36, 37, 38, 39, 40, 41, 42, 43, 44, 45, 46, 47, 48, 49, 50, 51] (by decide +kernel) (by decide +kernel)
set_option maxRecDepth 20000 in
theorem gX4_isFound_X1_finds : GoodIn wsX4_isFound (wsV RX4 168 RX1 yX1_finds wsX1_finds) := goodIn_app (goodIn_of _ (by decide +kernel)) ggX4_isFound_X1_finds
theorem dX4_isFound_0 : decode cX4_isFound 0 = .ok (.iload_n 1, 1) := by decide +kernel
theorem dX4_isFound_1 : decode cX4_isFound 1 = .ok (.invokestatic 30, 3) := by decide +kernel
theorem dX4_isFound_4 : decode cX4_isFound 4 = .ok (.aload_n 0, 1) := by decide +kernel
theorem dX4_isFound_5 : decode cX4_isFound 5 = .ok (.getfield 10, 3) := by decide +kernel
theorem dX4_isFound_8 : decode cX4_isFound 8 = .ok (.iload_n 1, 1) := by decide +kernel
theorem dX4_isFound_9 : decode cX4_isFound 9 = .ok (.invokevirtual 168, 3) := by decide +kernel
theorem dX4_isFound_12 : decode cX4_isFound 12 = .ok (.ireturn, 1) := by decide +kernel
set_option maxRecDepth 20000 in
theorem ggX4_missing_X1_finds : GoodIn wsX4_missing wsX1_finds := goodIn_r _ [6, 7, 8, 9, 10, 11, 12, 13, 14, 15, 16, 17, 18, 19, 20, 21, 22, 23, 24, 25, 26, 30, 31, 32, 33, 34, 35, 36, 37, 38, 39, 40, 41, 42, 43, 44, 45] (by decide +kernel) (by decide +kernel)
set_option maxRecDepth 20000 in
theorem gX4_missing_X1_finds : GoodIn wsX4_missing (wsV RX4 168 RX1 yX1_finds wsX1_finds) := goodIn_app (goodIn_of _ (by decide +kernel)) ggX4_missing_X1_finds
theorem dX4_missing_0 : decode cX4_missing 0 = .ok (.iconst 0, 1) := by decide +kernel
theorem dX4_missing_1 : decode cX4_missing 1 = .ok (.istore_n 1, 1) := by decide +kernel
theorem dX4_missing_2 : decode cX4_missing 2 = .ok (.iconst 0, 1) := by decide +kernel
theorem dX4_missing_3 : decode cX4_missing 3 = .ok (.istore_n 2, 1) := by decide +kernel
theorem dX4_missing_4 : decode cX4_missing 4 = .ok (.iload_n 2, 1) := by decide +kernel
theorem dX4_missing_5 : decode cX4_missing 5 = .ok (.bipush 64, 2) := by decide +kernel
theorem dX4_missing_7 : decode cX4_missing 7 = .ok (.if_icmp .ge 23, 3) := by decide +kernel
theorem dX4_missing_10 : decode cX4_missing 10 = .ok (.aload_n 0, 1) := by decide +kernel
theorem dX4_missing_11 : decode cX4_missing 11 = .ok (.getfield 10, 3) := by decide +kernel
theorem dX4_missing_14 : decode cX4_missing 14 = .ok (.iload_n 2, 1) := by decide +kernel
theorem dX4_missing_15 : decode cX4_missing 15 = .ok (.invokevirtual 168, 3) := by decide +kernel
theorem dX4_missing_18 : decode cX4_missing 18 = .ok (.ifCond .ne 6, 3) := by decide +kernel
theorem dX4_missing_21 : decode cX4_missing 21 = .ok (.iinc 1 1, 3) := by decide +kernel
theorem dX4_missing_24 : decode cX4_missing 24 = .ok (.iinc 2 1, 3) := by decide +kernel
theorem dX4_missing_27 : decode cX4_missing 27 = .ok (.goto (-23), 3) := by decide +kernel
theorem dX4_missing_30 : decode cX4_missing 30 = .ok (.iload_n 1, 1) := by decide +kernel
theorem dX4_missing_31 : decode cX4_missing 31 = .ok (.ireturn, 1) := by decide +kernel
set_option maxRecDepth 20000 in
theorem ggX4_ifWritten_X4_requireBlock : GoodIn wsX4_ifWritten wsX4_requireBlock := goodIn_ca (goodIn_r _ [6, 7, 8, 9, 10, 5, 11] (by decide +kernel) (by decide +kernel)) (goodIn_sub (fun _ h => List.mem_cons_of_mem _ (List.mem_append_right _ h)) (by decide +kernel))
set_option maxRecDepth 20000 in
theorem gX4_ifWritten_X4_requireBlock : GoodIn wsX4_ifWritten (va_wsS RX4 30 yX4_requireBlock wsX4_requireBlock) := goodIn_app (goodIn_of _ (by decide +kernel)) ggX4_ifWritten_X4_requireBlock
set_option maxRecDepth 20000 in
theorem ggX4_ifWritten_X1_operationsIfWritten : GoodIn wsX4_ifWritten wsX1_operationsIfWritten := goodIn_r _ [16, 17, 18, 19, 20, 15, 21, 22, 23, 24, 5, 25, 26, 27, 28, 29, 30, 31, 32, 33, 34, 35, 36, 37, 38, 39, 40, 41, 42, 43, 44, 45, 46, 47, 48, 49, 50, 51, 52, 53, 54, 55, 56, 57, 58, 59, 60, 64, 65, 66, 67, 68, 69, 70, 71, 72, 73, 74, 75, 76, 77, 78, 79] (by decide +kernel) (by decide +kernel)
set_option maxRecDepth 20000 in
theorem gX4_ifWritten_X1_operationsIfWritten : GoodIn wsX4_ifWritten (wsV RX4 172 RX1 yX1_operationsIfWritten wsX1_operationsIfWritten) := goodIn_app (goodIn_of _ (by decide +kernel)) ggX4_ifWritten_X1_operationsIfWritten
theorem dX4_ifWritten_0 : decode cX4_ifWritten 0 = .ok (.iload_n 1, 1) := by decide +kernel
theorem dX4_ifWritten_1 : decode cX4_ifWritten 1 = .ok (.invokestatic 30, 3) := by decide +kernel
theorem dX4_ifWritten_4 : decode cX4_ifWritten 4 = .ok (.aload_n 0, 1) := by decide +kernel
theorem dX4_ifWritten_5 : decode cX4_ifWritten 5 = .ok (.getfield 10, 3) := by decide +kernel
theorem dX4_ifWritten_8 : decode cX4_ifWritten 8 = .ok (.getfield 93, 3) := by decide +kernel
theorem dX4_ifWritten_11 : decode cX4_ifWritten 11 = .ok (.ifCond .eq 14, 3) := by decide +kernel
theorem dX4_ifWritten_14 : decode cX4_ifWritten 14 = .ok (.aload_n 0, 1) := by decide +kernel
theorem dX4_ifWritten_15 : decode cX4_ifWritten 15 = .ok (.getfield 10, 3) := by decide +kernel
theorem dX4_ifWritten_18 : decode cX4_ifWritten 18 = .ok (.iload_n 1, 1) := by decide +kernel
theorem dX4_ifWritten_19 : decode cX4_ifWritten 19 = .ok (.invokevirtual 172, 3) := by decide +kernel
theorem dX4_ifWritten_22 : decode cX4_ifWritten 22 = .ok (.goto 4, 3) := by decide +kernel
theorem dX4_ifWritten_25 : decode cX4_ifWritten 25 = .ok (.iconst (-1), 1) := by decide +kernel
theorem dX4_ifWritten_26 : decode cX4_ifWritten 26 = .ok (.ireturn, 1) := by decide +kernel
set_option maxRecDepth 20000 in
theorem ggX4_ifDestaged_X1_canDestage : GoodIn wsX4_ifDestaged wsX1_canDestage := goodIn_r _ [6, 7, 8, 9, 39, 40, 41, 42, 43, 44, 45, 46, 47, 48, 49, 50, 51, 52, 53, 54] (by decide +kernel) (by decide +kernel)
set_option maxRecDepth 20000 in
theorem gX4_ifDestaged_X1_canDestage : GoodIn wsX4_ifDestaged (wsV RX4 175 RX1 yX1_canDestage wsX1_canDestage) := goodIn_app (goodIn_of _ (by decide +kernel)) ggX4_ifDestaged_X1_canDestage
set_option maxRecDepth 20000 in
theorem ggX4_ifDestaged_X1_operationsIfDestaged : GoodIn wsX4_ifDestaged wsX1_operationsIfDestaged := goodIn_r _ [13, 8, 14, 15, 16, 17, 18, 19, 20, 21, 22, 23, 24, 25, 26, 27, 28, 29, 30, 31, 32, 33, 34, 35, 39, 40, 41, 42, 43, 44, 45, 46, 47, 48, 49, 50, 51, 52, 53, 54] (by decide +kernel) (by decide +kernel)
set_option maxRecDepth 20000 in
theorem gX4_ifDestaged_X1_operationsIfDestaged : GoodIn wsX4_ifDestaged (wsV RX4 178 RX1 yX1_operationsIfDestaged wsX1_operationsIfDestaged) := goodIn_app (goodIn_of _ (by decide +kernel)) ggX4_ifDestaged_X1_operationsIfDestaged
theorem dX4_ifDestaged_0 : decode cX4_ifDestaged 0 = .ok (.aload_n 0, 1) := by decide +kernel
theorem dX4_ifDestaged_1 : decode cX4_ifDestaged 1 = .ok (.getfield 10, 3) := by decide +kernel
theorem dX4_ifDestaged_4 : decode cX4_ifDestaged 4 = .ok (.invokevirtual 175, 3) := by decide +kernel
theorem dX4_ifDestaged_7 : decode cX4_ifDestaged 7 = .ok (.ifCond .eq 13, 3) := by decide +kernel
theorem dX4_ifDestaged_10 : decode cX4_ifDestaged 10 = .ok (.aload_n 0, 1) := by decide +kernel
theorem dX4_ifDestaged_11 : decode cX4_ifDestaged 11 = .ok (.getfield 10, 3) := by decide +kernel
theorem dX4_ifDestaged_14 : decode cX4_ifDestaged 14 = .ok (.invokevirtual 178, 3) := by decide +kernel
theorem dX4_ifDestaged_17 : decode cX4_ifDestaged 17 = .ok (.goto 4, 3) := by decide +kernel
theorem dX4_ifDestaged_20 : decode cX4_ifDestaged 20 = .ok (.iconst (-1), 1) := by decide +kernel
theorem dX4_ifDestaged_21 : decode cX4_ifDestaged 21 = .ok (.ireturn, 1) := by decide +kernel
set_option maxRecDepth 20000 in
theorem ggX4_ticksToLoss_X1_canDestage : GoodIn wsX4_ticksToLoss wsX1_canDestage := goodIn_r _ [8, 9, 10, 11, 21, 22, 23, 24, 25, 26, 27, 28, 29, 30, 31, 32, 33, 34, 35, 36] (by decide +kernel) (by decide +kernel)
set_option maxRecDepth 20000 in
theorem gX4_ticksToLoss_X1_canDestage : GoodIn wsX4_ticksToLoss (wsV RX4 175 RX1 yX1_canDestage wsX1_canDestage) := goodIn_app (goodIn_of _ (by decide +kernel)) ggX4_ticksToLoss_X1_canDestage
set_option maxRecDepth 20000 in
theorem ggX4_ticksToLoss_X2_dirtyLines : GoodIn wsX4_ticksToLoss wsX2_dirtyLines := goodIn_r _ [16, 17, 28, 29, 30, 31, 32, 33, 34, 35, 36] (by decide +kernel) (by decide +kernel)
set_option maxRecDepth 20000 in
theorem gX4_ticksToLoss_X2_dirtyLines : GoodIn wsX4_ticksToLoss (wsV RX4 159 RX2 yX2_dirtyLines wsX2_dirtyLines) := goodIn_app (goodIn_of _ (by decide +kernel)) ggX4_ticksToLoss_X2_dirtyLines
theorem dX4_ticksToLoss_0 : decode cX4_ticksToLoss 0 = .ok (.aload_n 0, 1) := by decide +kernel
theorem dX4_ticksToLoss_1 : decode cX4_ticksToLoss 1 = .ok (.getfield 10, 3) := by decide +kernel
theorem dX4_ticksToLoss_4 : decode cX4_ticksToLoss 4 = .ok (.invokevirtual 175, 3) := by decide +kernel
theorem dX4_ticksToLoss_7 : decode cX4_ticksToLoss 7 = .ok (.ifCond .ne 16, 3) := by decide +kernel
theorem dX4_ticksToLoss_10 : decode cX4_ticksToLoss 10 = .ok (.aload_n 0, 1) := by decide +kernel
theorem dX4_ticksToLoss_11 : decode cX4_ticksToLoss 11 = .ok (.getfield 10, 3) := by decide +kernel
theorem dX4_ticksToLoss_14 : decode cX4_ticksToLoss 14 = .ok (.getfield 74, 3) := by decide +kernel
theorem dX4_ticksToLoss_17 : decode cX4_ticksToLoss 17 = .ok (.invokevirtual 159, 3) := by decide +kernel
theorem dX4_ticksToLoss_20 : decode cX4_ticksToLoss 20 = .ok (.ifCond .ne 5, 3) := by decide +kernel
theorem dX4_ticksToLoss_23 : decode cX4_ticksToLoss 23 = .ok (.iconst (-1), 1) := by decide +kernel
theorem dX4_ticksToLoss_24 : decode cX4_ticksToLoss 24 = .ok (.ireturn, 1) := by decide +kernel
theorem dX4_ticksToLoss_25 : decode cX4_ticksToLoss 25 = .ok (.aload_n 0, 1) := by decide +kernel
theorem dX4_ticksToLoss_26 : decode cX4_ticksToLoss 26 = .ok (.getfield 10, 3) := by decide +kernel
theorem dX4_ticksToLoss_29 : decode cX4_ticksToLoss 29 = .ok (.getfield 74, 3) := by decide +kernel
theorem dX4_ticksToLoss_32 : decode cX4_ticksToLoss 32 = .ok (.getfield 78, 3) := by decide +kernel
theorem dX4_ticksToLoss_35 : decode cX4_ticksToLoss 35 = .ok (.ireturn, 1) := by decide +kernel
theorem dX4_count_0 : decode cX4_count 0 = .ok (.iload_n 1, 1) := by decide +kernel
theorem dX4_count_1 : decode cX4_count 1 = .ok (.ifCond .lt 9, 3) := by decide +kernel
theorem dX4_count_4 : decode cX4_count 4 = .ok (.iload_n 1, 1) := by decide +kernel
theorem dX4_count_5 : decode cX4_count 5 = .ok (.bipush 7, 2) := by decide +kernel
theorem dX4_count_7 : decode cX4_count 7 = .ok (.if_icmp .le 13, 3) := by decide +kernel
theorem dX4_count_10 : decode cX4_count 10 = .ok (.new 34, 3) := by decide +kernel
theorem dX4_count_13 : decode cX4_count 13 = .ok (.dup, 1) := by decide +kernel
theorem dX4_count_14 : decode cX4_count 14 = .ok (.ldc 181, 2) := by decide +kernel
theorem dX4_count_16 : decode cX4_count 16 = .ok (.invokespecial 38, 3) := by decide +kernel
theorem dX4_count_19 : decode cX4_count 19 = .ok (.athrow, 1) := by decide +kernel
theorem dX4_count_20 : decode cX4_count 20 = .ok (.aload_n 0, 1) := by decide +kernel
theorem dX4_count_21 : decode cX4_count 21 = .ok (.getfield 10, 3) := by decide +kernel
theorem dX4_count_24 : decode cX4_count 24 = .ok (.getfield 183, 3) := by decide +kernel
theorem dX4_count_27 : decode cX4_count 27 = .ok (.iload_n 1, 1) := by decide +kernel
theorem dX4_count_28 : decode cX4_count 28 = .ok (.iaload, 1) := by decide +kernel
theorem dX4_count_29 : decode cX4_count 29 = .ok (.ireturn, 1) := by decide +kernel
theorem dX4_blocksPerStripe_0 : decode cX4_blocksPerStripe 0 = .ok (.aload_n 0, 1) := by decide +kernel
theorem dX4_blocksPerStripe_1 : decode cX4_blocksPerStripe 1 = .ok (.getfield 10, 3) := by decide +kernel
theorem dX4_blocksPerStripe_4 : decode cX4_blocksPerStripe 4 = .ok (.getfield 183, 3) := by decide +kernel
theorem dX4_blocksPerStripe_7 : decode cX4_blocksPerStripe 7 = .ok (.bipush 7, 2) := by decide +kernel
theorem dX4_blocksPerStripe_9 : decode cX4_blocksPerStripe 9 = .ok (.iaload, 1) := by decide +kernel
theorem dX4_blocksPerStripe_10 : decode cX4_blocksPerStripe 10 = .ok (.istore_n 1, 1) := by decide +kernel
theorem dX4_blocksPerStripe_11 : decode cX4_blocksPerStripe 11 = .ok (.iload_n 1, 1) := by decide +kernel
theorem dX4_blocksPerStripe_12 : decode cX4_blocksPerStripe 12 = .ok (.ifCond .ne 5, 3) := by decide +kernel
theorem dX4_blocksPerStripe_15 : decode cX4_blocksPerStripe 15 = .ok (.fconst 0, 1) := by decide +kernel
theorem dX4_blocksPerStripe_16 : decode cX4_blocksPerStripe 16 = .ok (.freturn, 1) := by decide +kernel
theorem dX4_blocksPerStripe_17 : decode cX4_blocksPerStripe 17 = .ok (.aload_n 0, 1) := by decide +kernel
theorem dX4_blocksPerStripe_18 : decode cX4_blocksPerStripe 18 = .ok (.getfield 10, 3) := by decide +kernel
theorem dX4_blocksPerStripe_21 : decode cX4_blocksPerStripe 21 = .ok (.getfield 183, 3) := by decide +kernel
theorem dX4_blocksPerStripe_24 : decode cX4_blocksPerStripe 24 = .ok (.bipush 8, 2) := by decide +kernel
theorem dX4_blocksPerStripe_26 : decode cX4_blocksPerStripe 26 = .ok (.iaload, 1) := by decide +kernel
theorem dX4_blocksPerStripe_27 : decode cX4_blocksPerStripe 27 = .ok (.i2f, 1) := by decide +kernel
theorem dX4_blocksPerStripe_28 : decode cX4_blocksPerStripe 28 = .ok (.iload_n 1, 1) := by decide +kernel
theorem dX4_blocksPerStripe_29 : decode cX4_blocksPerStripe 29 = .ok (.i2f, 1) := by decide +kernel
theorem dX4_blocksPerStripe_30 : decode cX4_blocksPerStripe 30 = .ok (.fdiv, 1) := by decide +kernel
theorem dX4_blocksPerStripe_31 : decode cX4_blocksPerStripe 31 = .ok (.freturn, 1) := by decide +kernel
theorem dX4_savedStates_0 : decode cX4_savedStates 0 = .ok (.aload_n 0, 1) := by decide +kernel
theorem dX4_savedStates_1 : decode cX4_savedStates 1 = .ok (.getfield 19, 3) := by decide +kernel
theorem dX4_savedStates_4 : decode cX4_savedStates 4 = .ok (.getfield 135, 3) := by decide +kernel
theorem dX4_savedStates_7 : decode cX4_savedStates 7 = .ok (.ireturn, 1) := by decide +kernel
theorem dX4_isBlock_0 : decode cX4_isBlock 0 = .ok (.iload_n 0, 1) := by decide +kernel
theorem dX4_isBlock_1 : decode cX4_isBlock 1 = .ok (.ifCond .lt 13, 3) := by decide +kernel
theorem dX4_isBlock_4 : decode cX4_isBlock 4 = .ok (.iload_n 0, 1) := by decide +kernel
theorem dX4_isBlock_5 : decode cX4_isBlock 5 = .ok (.bipush 64, 2) := by decide +kernel
theorem dX4_isBlock_7 : decode cX4_isBlock 7 = .ok (.if_icmp .ge 7, 3) := by decide +kernel
theorem dX4_isBlock_10 : decode cX4_isBlock 10 = .ok (.iconst 1, 1) := by decide +kernel
theorem dX4_isBlock_11 : decode cX4_isBlock 11 = .ok (.goto 4, 3) := by decide +kernel
theorem dX4_isBlock_14 : decode cX4_isBlock 14 = .ok (.iconst 0, 1) := by decide +kernel
theorem dX4_isBlock_15 : decode cX4_isBlock 15 = .ok (.ireturn, 1) := by decide +kernel
theorem dX4_isLine_0 : decode cX4_isLine 0 = .ok (.iload_n 0, 1) := by decide +kernel
theorem dX4_isLine_1 : decode cX4_isLine 1 = .ok (.ifCond .lt 13, 3) := by decide +kernel
theorem dX4_isLine_4 : decode cX4_isLine 4 = .ok (.iload_n 0, 1) := by decide +kernel
theorem dX4_isLine_5 : decode cX4_isLine 5 = .ok (.bipush 12, 2) := by decide +kernel
theorem dX4_isLine_7 : decode cX4_isLine 7 = .ok (.if_icmp .ge 7, 3) := by decide +kernel
theorem dX4_isLine_10 : decode cX4_isLine 10 = .ok (.iconst 1, 1) := by decide +kernel
theorem dX4_isLine_11 : decode cX4_isLine 11 = .ok (.goto 4, 3) := by decide +kernel
theorem dX4_isLine_14 : decode cX4_isLine 14 = .ok (.iconst 0, 1) := by decide +kernel
theorem dX4_isLine_15 : decode cX4_isLine 15 = .ok (.ireturn, 1) := by decide +kernel
theorem dX4_stripeOf_0 : decode cX4_stripeOf 0 = .ok (.iload_n 0, 1) := by decide +kernel
theorem dX4_stripeOf_1 : decode cX4_stripeOf 1 = .ok (.iconst 4, 1) := by decide +kernel
theorem dX4_stripeOf_2 : decode cX4_stripeOf 2 = .ok (.idiv, 1) := by decide +kernel
theorem dX4_stripeOf_3 : decode cX4_stripeOf 3 = .ok (.ireturn, 1) := by decide +kernel
set_option maxRecDepth 20000 in
theorem ggX4_requireBlock_X4_isBlock : GoodIn wsX4_requireBlock wsX4_isBlock := goodIn_r _ [6] (by decide +kernel) (by decide +kernel)
set_option maxRecDepth 20000 in
theorem gX4_requireBlock_X4_isBlock : GoodIn wsX4_requireBlock (va_wsS RX4 187 yX4_isBlock wsX4_isBlock) := goodIn_app (goodIn_of _ (by decide +kernel)) ggX4_requireBlock_X4_isBlock
theorem dX4_requireBlock_0 : decode cX4_requireBlock 0 = .ok (.iload_n 0, 1) := by decide +kernel
theorem dX4_requireBlock_1 : decode cX4_requireBlock 1 = .ok (.invokestatic 187, 3) := by decide +kernel
theorem dX4_requireBlock_4 : decode cX4_requireBlock 4 = .ok (.ifCond .ne 13, 3) := by decide +kernel
theorem dX4_requireBlock_7 : decode cX4_requireBlock 7 = .ok (.new 146, 3) := by decide +kernel
theorem dX4_requireBlock_10 : decode cX4_requireBlock 10 = .ok (.dup, 1) := by decide +kernel
theorem dX4_requireBlock_11 : decode cX4_requireBlock 11 = .ok (.ldc 190, 2) := by decide +kernel
theorem dX4_requireBlock_13 : decode cX4_requireBlock 13 = .ok (.invokespecial 150, 3) := by decide +kernel
theorem dX4_requireBlock_16 : decode cX4_requireBlock 16 = .ok (.athrow, 1) := by decide +kernel
theorem dX4_requireBlock_17 : decode cX4_requireBlock 17 = .ok (.return_, 1) := by decide +kernel
theorem dX4_requireStripe_0 : decode cX4_requireStripe 0 = .ok (.iload_n 0, 1) := by decide +kernel
theorem dX4_requireStripe_1 : decode cX4_requireStripe 1 = .ok (.ifCond .lt 9, 3) := by decide +kernel
theorem dX4_requireStripe_4 : decode cX4_requireStripe 4 = .ok (.iload_n 0, 1) := by decide +kernel
theorem dX4_requireStripe_5 : decode cX4_requireStripe 5 = .ok (.bipush 16, 2) := by decide +kernel
theorem dX4_requireStripe_7 : decode cX4_requireStripe 7 = .ok (.if_icmp .lt 13, 3) := by decide +kernel
theorem dX4_requireStripe_10 : decode cX4_requireStripe 10 = .ok (.new 146, 3) := by decide +kernel
theorem dX4_requireStripe_13 : decode cX4_requireStripe 13 = .ok (.dup, 1) := by decide +kernel
theorem dX4_requireStripe_14 : decode cX4_requireStripe 14 = .ok (.ldc 192, 2) := by decide +kernel
theorem dX4_requireStripe_16 : decode cX4_requireStripe 16 = .ok (.invokespecial 150, 3) := by decide +kernel
theorem dX4_requireStripe_19 : decode cX4_requireStripe 19 = .ok (.athrow, 1) := by decide +kernel
theorem dX4_requireStripe_20 : decode cX4_requireStripe 20 = .ok (.return_, 1) := by decide +kernel
theorem dX4_requirePower_0 : decode cX4_requirePower 0 = .ok (.aload_n 0, 1) := by decide +kernel
theorem dX4_requirePower_1 : decode cX4_requirePower 1 = .ok (.getfield 10, 3) := by decide +kernel
theorem dX4_requirePower_4 : decode cX4_requirePower 4 = .ok (.getfield 93, 3) := by decide +kernel
theorem dX4_requirePower_7 : decode cX4_requirePower 7 = .ok (.ifCond .ne 13, 3) := by decide +kernel
theorem dX4_requirePower_10 : decode cX4_requirePower 10 = .ok (.new 97, 3) := by decide +kernel
theorem dX4_requirePower_13 : decode cX4_requirePower 13 = .ok (.dup, 1) := by decide +kernel
theorem dX4_requirePower_14 : decode cX4_requirePower 14 = .ok (.ldc 194, 2) := by decide +kernel
theorem dX4_requirePower_16 : decode cX4_requirePower 16 = .ok (.invokespecial 101, 3) := by decide +kernel
theorem dX4_requirePower_19 : decode cX4_requirePower 19 = .ok (.athrow, 1) := by decide +kernel
theorem dX4_requirePower_20 : decode cX4_requirePower 20 = .ok (.return_, 1) := by decide +kernel
set_option maxRecDepth 20000 in
theorem ggX4_requireDestaging_X1_canDestage : GoodIn wsX4_requireDestaging wsX1_canDestage := goodIn_r _ [8, 9, 10, 11, 15, 16, 17, 18, 19, 20, 21, 22, 23, 24, 25, 26, 27, 28, 29, 30] (by decide +kernel) (by decide +kernel)
set_option maxRecDepth 20000 in
theorem gX4_requireDestaging_X1_canDestage : GoodIn wsX4_requireDestaging (wsV RX4 175 RX1 yX1_canDestage wsX1_canDestage) := goodIn_app (goodIn_of _ (by decide +kernel)) ggX4_requireDestaging_X1_canDestage
theorem dX4_requireDestaging_0 : decode cX4_requireDestaging 0 = .ok (.aload_n 0, 1) := by decide +kernel
theorem dX4_requireDestaging_1 : decode cX4_requireDestaging 1 = .ok (.getfield 10, 3) := by decide +kernel
theorem dX4_requireDestaging_4 : decode cX4_requireDestaging 4 = .ok (.invokevirtual 175, 3) := by decide +kernel
theorem dX4_requireDestaging_7 : decode cX4_requireDestaging 7 = .ok (.ifCond .ne 13, 3) := by decide +kernel
theorem dX4_requireDestaging_10 : decode cX4_requireDestaging 10 = .ok (.new 97, 3) := by decide +kernel
theorem dX4_requireDestaging_13 : decode cX4_requireDestaging 13 = .ok (.dup, 1) := by decide +kernel
theorem dX4_requireDestaging_14 : decode cX4_requireDestaging 14 = .ok (.ldc 196, 2) := by decide +kernel
theorem dX4_requireDestaging_16 : decode cX4_requireDestaging 16 = .ok (.invokespecial 101, 3) := by decide +kernel
theorem dX4_requireDestaging_19 : decode cX4_requireDestaging 19 = .ok (.athrow, 1) := by decide +kernel
theorem dX4_requireDestaging_20 : decode cX4_requireDestaging 20 = .ok (.return_, 1) := by decide +kernel
theorem dX4_readsToWrite_0 : decode cX4_readsToWrite 0 = .ok (.iload_n 0, 1) := by decide +kernel
theorem dX4_readsToWrite_1 : decode cX4_readsToWrite 1 = .ok (.iconst 2, 1) := by decide +kernel
theorem dX4_readsToWrite_2 : decode cX4_readsToWrite 2 = .ok (.if_icmp .gt 7, 3) := by decide +kernel
theorem dX4_readsToWrite_5 : decode cX4_readsToWrite 5 = .ok (.iconst 2, 1) := by decide +kernel
theorem dX4_readsToWrite_6 : decode cX4_readsToWrite 6 = .ok (.goto 6, 3) := by decide +kernel
theorem dX4_readsToWrite_9 : decode cX4_readsToWrite 9 = .ok (.iconst 4, 1) := by decide +kernel
theorem dX4_readsToWrite_10 : decode cX4_readsToWrite 10 = .ok (.iload_n 0, 1) := by decide +kernel
theorem dX4_readsToWrite_11 : decode cX4_readsToWrite 11 = .ok (.isub, 1) := by decide +kernel
theorem dX4_readsToWrite_12 : decode cX4_readsToWrite 12 = .ok (.ireturn, 1) := by decide +kernel
theorem dX4_writesToWrite_0 : decode cX4_writesToWrite 0 = .ok (.iload_n 0, 1) := by decide +kernel
theorem dX4_writesToWrite_1 : decode cX4_writesToWrite 1 = .ok (.iconst 1, 1) := by decide +kernel
theorem dX4_writesToWrite_2 : decode cX4_writesToWrite 2 = .ok (.iadd, 1) := by decide +kernel
theorem dX4_writesToWrite_3 : decode cX4_writesToWrite 3 = .ok (.ireturn, 1) := by decide +kernel
set_option maxRecDepth 20000 in
theorem ggX4_operationsToWrite_X4_readsToWrite : GoodIn wsX4_operationsToWrite wsX4_readsToWrite := goodIn_r _ [4] (by decide +kernel) (by decide +kernel)
set_option maxRecDepth 20000 in
theorem gX4_operationsToWrite_X4_readsToWrite : GoodIn wsX4_operationsToWrite (va_wsS RX4 207 yX4_readsToWrite wsX4_readsToWrite) := goodIn_app (goodIn_of _ (by decide +kernel)) ggX4_operationsToWrite_X4_readsToWrite
set_option maxRecDepth 20000 in
theorem ggX4_operationsToWrite_X4_writesToWrite : GoodIn wsX4_operationsToWrite wsX4_writesToWrite := goodIn_r _ [7] (by decide +kernel) (by decide +kernel)
set_option maxRecDepth 20000 in
theorem gX4_operationsToWrite_X4_writesToWrite : GoodIn wsX4_operationsToWrite (va_wsS RX4 210 yX4_writesToWrite wsX4_writesToWrite) := goodIn_app (goodIn_of _ (by decide +kernel)) ggX4_operationsToWrite_X4_writesToWrite
theorem dX4_operationsToWrite_0 : decode cX4_operationsToWrite 0 = .ok (.iload_n 0, 1) := by decide +kernel
theorem dX4_operationsToWrite_1 : decode cX4_operationsToWrite 1 = .ok (.ifCond .ne 7, 3) := by decide +kernel
theorem dX4_operationsToWrite_4 : decode cX4_operationsToWrite 4 = .ok (.iconst 0, 1) := by decide +kernel
theorem dX4_operationsToWrite_5 : decode cX4_operationsToWrite 5 = .ok (.goto 12, 3) := by decide +kernel
theorem dX4_operationsToWrite_8 : decode cX4_operationsToWrite 8 = .ok (.iload_n 0, 1) := by decide +kernel
theorem dX4_operationsToWrite_9 : decode cX4_operationsToWrite 9 = .ok (.invokestatic 207, 3) := by decide +kernel
theorem dX4_operationsToWrite_12 : decode cX4_operationsToWrite 12 = .ok (.iload_n 0, 1) := by decide +kernel
theorem dX4_operationsToWrite_13 : decode cX4_operationsToWrite 13 = .ok (.invokestatic 210, 3) := by decide +kernel
theorem dX4_operationsToWrite_16 : decode cX4_operationsToWrite 16 = .ok (.iadd, 1) := by decide +kernel
theorem dX4_operationsToWrite_17 : decode cX4_operationsToWrite 17 = .ok (.ireturn, 1) := by decide +kernel
theorem dJ9_floorMod_7cf53_0 : decode cJ9_floorMod_7cf53 0 = .ok (.iload_n 0, 1) := by decide +kernel
theorem dJ9_floorMod_7cf53_1 : decode cJ9_floorMod_7cf53 1 = .ok (.iload_n 1, 1) := by decide +kernel
theorem dJ9_floorMod_7cf53_2 : decode cJ9_floorMod_7cf53 2 = .ok (.irem, 1) := by decide +kernel
theorem dJ9_floorMod_7cf53_3 : decode cJ9_floorMod_7cf53 3 = .ok (.istore_n 2, 1) := by decide +kernel
theorem dJ9_floorMod_7cf53_4 : decode cJ9_floorMod_7cf53 4 = .ok (.iload_n 0, 1) := by decide +kernel
theorem dJ9_floorMod_7cf53_5 : decode cJ9_floorMod_7cf53 5 = .ok (.iload_n 1, 1) := by decide +kernel
theorem dJ9_floorMod_7cf53_6 : decode cJ9_floorMod_7cf53 6 = .ok (.ixor, 1) := by decide +kernel
theorem dJ9_floorMod_7cf53_7 : decode cJ9_floorMod_7cf53 7 = .ok (.ifCond .ge 11, 3) := by decide +kernel
theorem dJ9_floorMod_7cf53_10 : decode cJ9_floorMod_7cf53 10 = .ok (.iload_n 2, 1) := by decide +kernel
theorem dJ9_floorMod_7cf53_11 : decode cJ9_floorMod_7cf53 11 = .ok (.ifCond .eq 7, 3) := by decide +kernel
theorem dJ9_floorMod_7cf53_14 : decode cJ9_floorMod_7cf53 14 = .ok (.iload_n 2, 1) := by decide +kernel
theorem dJ9_floorMod_7cf53_15 : decode cJ9_floorMod_7cf53 15 = .ok (.iload_n 1, 1) := by decide +kernel
theorem dJ9_floorMod_7cf53_16 : decode cJ9_floorMod_7cf53 16 = .ok (.iadd, 1) := by decide +kernel
theorem dJ9_floorMod_7cf53_17 : decode cJ9_floorMod_7cf53 17 = .ok (.ireturn, 1) := by decide +kernel
theorem dJ9_floorMod_7cf53_18 : decode cJ9_floorMod_7cf53 18 = .ok (.iload_n 2, 1) := by decide +kernel
theorem dJ9_floorMod_7cf53_19 : decode cJ9_floorMod_7cf53 19 = .ok (.ireturn, 1) := by decide +kernel
theorem dJ9_max_7cf53_0 : decode cJ9_max_7cf53 0 = .ok (.iload_n 0, 1) := by decide +kernel
theorem dJ9_max_7cf53_1 : decode cJ9_max_7cf53 1 = .ok (.iload_n 1, 1) := by decide +kernel
theorem dJ9_max_7cf53_2 : decode cJ9_max_7cf53 2 = .ok (.if_icmp .lt 7, 3) := by decide +kernel
theorem dJ9_max_7cf53_5 : decode cJ9_max_7cf53 5 = .ok (.iload_n 0, 1) := by decide +kernel
theorem dJ9_max_7cf53_6 : decode cJ9_max_7cf53 6 = .ok (.goto 4, 3) := by decide +kernel
theorem dJ9_max_7cf53_9 : decode cJ9_max_7cf53 9 = .ok (.iload_n 1, 1) := by decide +kernel
theorem dJ9_max_7cf53_10 : decode cJ9_max_7cf53 10 = .ok (.ireturn, 1) := by decide +kernel
theorem dJ9_min_7cf53_0 : decode cJ9_min_7cf53 0 = .ok (.iload_n 0, 1) := by decide +kernel
theorem dJ9_min_7cf53_1 : decode cJ9_min_7cf53 1 = .ok (.iload_n 1, 1) := by decide +kernel
theorem dJ9_min_7cf53_2 : decode cJ9_min_7cf53 2 = .ok (.if_icmp .gt 7, 3) := by decide +kernel
theorem dJ9_min_7cf53_5 : decode cJ9_min_7cf53 5 = .ok (.iload_n 0, 1) := by decide +kernel
theorem dJ9_min_7cf53_6 : decode cJ9_min_7cf53 6 = .ok (.goto 4, 3) := by decide +kernel
theorem dJ9_min_7cf53_9 : decode cJ9_min_7cf53 9 = .ok (.iload_n 1, 1) := by decide +kernel
theorem dJ9_min_7cf53_10 : decode cJ9_min_7cf53 10 = .ok (.ireturn, 1) := by decide +kernel
theorem dL_cell_0 : decode cL_cell 0 = .ok (.iload_n 1, 1) := by decide +kernel
theorem dL_cell_1 : decode cL_cell 1 = .ok (.aload_n 0, 1) := by decide +kernel
theorem dL_cell_2 : decode cL_cell 2 = .ok (.arraylength, 1) := by decide +kernel
theorem dL_cell_3 : decode cL_cell 3 = .ok (.if_icmp .ge 9, 3) := by decide +kernel
theorem dL_cell_6 : decode cL_cell 6 = .ok (.aload_n 0, 1) := by decide +kernel
theorem dL_cell_7 : decode cL_cell 7 = .ok (.iload_n 1, 1) := by decide +kernel
theorem dL_cell_8 : decode cL_cell 8 = .ok (.iaload, 1) := by decide +kernel
theorem dL_cell_9 : decode cL_cell 9 = .ok (.goto 11, 3) := by decide +kernel
theorem dL_cell_12 : decode cL_cell 12 = .ok (.ldc 7, 2) := by decide +kernel
theorem dL_cell_14 : decode cL_cell 14 = .ok (.iload_n 1, 1) := by decide +kernel
theorem dL_cell_15 : decode cL_cell 15 = .ok (.sipush 283, 3) := by decide +kernel
theorem dL_cell_18 : decode cL_cell 18 = .ok (.iadd, 1) := by decide +kernel
theorem dL_cell_19 : decode cL_cell 19 = .ok (.imul, 1) := by decide +kernel
theorem dL_cell_20 : decode cL_cell 20 = .ok (.ireturn, 1) := by decide +kernel
theorem dL_up_0 : decode cL_up 0 = .ok (.iload_n 0, 1) := by decide +kernel
theorem dL_up_1 : decode cL_up 1 = .ok (.ldc 8, 2) := by decide +kernel
theorem dL_up_3 : decode cL_up 3 = .ok (.iand, 1) := by decide +kernel
theorem dL_up_4 : decode cL_up 4 = .ok (.iload_n 1, 1) := by decide +kernel
theorem dL_up_5 : decode cL_up 5 = .ok (.irem, 1) := by decide +kernel
theorem dL_up_6 : decode cL_up 6 = .ok (.ireturn, 1) := by decide +kernel
set_option maxRecDepth 20000 in
theorem ggL_told_X4_charge : GoodIn wsL_told wsX4_charge := goodIn_r _ [6, 7, 8, 9, 86, 87, 88, 89, 90, 91, 92, 93, 94, 95, 96, 97, 98, 99, 100, 101, 102, 103, 104] (by decide +kernel) (by decide +kernel)
set_option maxRecDepth 20000 in
theorem gL_told_X4_charge : GoodIn wsL_told (wsV RL 11 RX4 yX4_charge wsX4_charge) := goodIn_app (goodIn_of _ (by decide +kernel)) ggL_told_X4_charge
set_option maxRecDepth 20000 in
theorem ggL_told_X4_isOn : GoodIn wsL_told wsX4_isOn := goodIn_r _ [13, 7, 14, 86, 87, 88, 89, 90, 91, 92, 93, 94, 95] (by decide +kernel) (by decide +kernel)
set_option maxRecDepth 20000 in
theorem gL_told_X4_isOn : GoodIn wsL_told (wsV RL 17 RX4 yX4_isOn wsX4_isOn) := goodIn_app (goodIn_of _ (by decide +kernel)) ggL_told_X4_isOn
set_option maxRecDepth 20000 in
theorem ggL_told_X4_isIn : GoodIn wsL_told wsX4_isIn := goodIn_r _ [18, 7, 8, 19, 86, 87, 88, 89, 90, 91, 92, 93, 94, 95, 96, 97, 98, 99, 100, 101, 102, 103, 104] (by decide +kernel) (by decide +kernel)
set_option maxRecDepth 20000 in
theorem gL_told_X4_isIn : GoodIn wsL_told (wsV RL 21 RX4 yX4_isIn wsX4_isIn) := goodIn_app (goodIn_of _ (by decide +kernel)) ggL_told_X4_isIn
set_option maxRecDepth 20000 in
theorem ggL_told_X4_missing : GoodIn wsL_told wsX4_missing := goodIn_r _ [23, 7, 24, 25, 26, 27, 28, 29, 30, 31, 32, 33, 5, 34, 35, 36, 37, 38, 39, 40, 41, 42, 43, 44, 45, 46, 47, 86, 87, 88, 89, 90, 91, 92, 93, 94, 95, 96, 97, 98, 99, 100, 101, 102, 103, 104] (by decide +kernel) (by decide +kernel)
set_option maxRecDepth 20000 in
theorem gL_told_X4_missing : GoodIn wsL_told (wsV RL 24 RX4 yX4_missing wsX4_missing) := goodIn_app (goodIn_of _ (by decide +kernel)) ggL_told_X4_missing
set_option maxRecDepth 20000 in
theorem ggL_told_X4_count : GoodIn wsL_told wsX4_count := goodIn_ca (goodIn_r _ [51, 52, 53, 7, 54, 86, 87, 88, 89, 90, 91, 92, 93, 94, 95] (by decide +kernel) (by decide +kernel)) (goodIn_sub (fun _ h => List.mem_cons_of_mem _ (List.mem_append_left _ (List.mem_append_right _ h))) (by decide +kernel))
set_option maxRecDepth 20000 in
theorem gL_told_X4_count : GoodIn wsL_told (wsV RL 27 RX4 yX4_count wsX4_count) := goodIn_app (goodIn_of _ (by decide +kernel)) ggL_told_X4_count
set_option maxRecDepth 20000 in
theorem ggL_told_X4_line : GoodIn wsL_told wsX4_line := goodIn_ca (goodIn_ca (goodIn_r _ [58, 59, 60, 52, 53, 7, 8, 61, 62, 63, 38, 64, 45, 65, 66, 67, 68, 46, 5, 47, 86, 87, 88, 89, 90, 91, 92, 93, 94, 95, 96, 97, 98, 99, 100, 101, 102, 103, 104] (by decide +kernel) (by decide +kernel)) (goodIn_sub (fun _ h => List.mem_cons_of_mem _ (List.mem_append_right _ h)) (by decide +kernel))) (goodIn_sub (fun _ h => List.mem_cons_of_mem _ (List.mem_append_left _ (List.mem_append_right _ h))) (by decide +kernel))
set_option maxRecDepth 20000 in
theorem gL_told_X4_line : GoodIn wsL_told (wsV RL 31 RX4 yX4_line wsX4_line) := goodIn_app (goodIn_of _ (by decide +kernel)) ggL_told_X4_line
set_option maxRecDepth 20000 in
theorem ggL_told_X4_onDisk : GoodIn wsL_told wsX4_onDisk := goodIn_ca (goodIn_r _ [72, 7, 73, 74, 5, 75, 59, 60, 76, 33, 34, 77, 78, 79, 27, 80, 81, 86, 87, 88, 89, 90, 91, 92, 93, 94, 95] (by decide +kernel) (by decide +kernel)) (goodIn_sub (fun _ h => List.mem_cons_of_mem _ (List.mem_append_right _ h)) (by decide +kernel))
set_option maxRecDepth 20000 in
theorem gL_told_X4_onDisk : GoodIn wsL_told (wsV RL 35 RX4 yX4_onDisk wsX4_onDisk) := goodIn_app (goodIn_of _ (by decide +kernel)) ggL_told_X4_onDisk
set_option maxRecDepth 20000 in
theorem ggL_told_X4_isFound : GoodIn wsL_told wsX4_isFound := goodIn_ca (goodIn_r _ [85, 7, 73, 74, 5, 75, 59, 60, 76, 33, 34, 24, 25, 26, 27, 28, 29, 30, 31, 32, 35, 36, 37, 38, 39, 40, 41, 42, 43, 44, 45, 46, 47, 86, 87, 88, 89, 90, 91, 92, 93, 94, 95, 96, 97, 98, 99, 100, 101, 102, 103, 104] (by decide +kernel) (by decide +kernel)) (goodIn_sub (fun _ h => List.mem_cons_of_mem _ (List.mem_append_right _ h)) (by decide +kernel))
set_option maxRecDepth 20000 in
theorem gL_told_X4_isFound : GoodIn wsL_told (wsV RL 38 RX4 yX4_isFound wsX4_isFound) := goodIn_app (goodIn_of _ (by decide +kernel)) ggL_told_X4_isFound
theorem dL_told_0 : decode cL_told 0 = .ok (.ldc2_w 9, 3) := by decide +kernel
theorem dL_told_3 : decode cL_told 3 = .ok (.ldc2_w 9, 3) := by decide +kernel
theorem dL_told_6 : decode cL_told 6 = .ok (.ldc2_w 9, 3) := by decide +kernel
theorem dL_told_9 : decode cL_told 9 = .ok (.aload_n 0, 1) := by decide +kernel
theorem dL_told_10 : decode cL_told 10 = .ok (.invokevirtual 11, 3) := by decide +kernel
theorem dL_told_13 : decode cL_told 13 = .ok (.i2l, 1) := by decide +kernel
theorem dL_told_14 : decode cL_told 14 = .ok (.lmul, 1) := by decide +kernel
theorem dL_told_15 : decode cL_told 15 = .ok (.aload_n 0, 1) := by decide +kernel
theorem dL_told_16 : decode cL_told 16 = .ok (.invokevirtual 17, 3) := by decide +kernel
theorem dL_told_19 : decode cL_told 19 = .ok (.ifCond .eq 7, 3) := by decide +kernel
theorem dL_told_22 : decode cL_told 22 = .ok (.iconst 1, 1) := by decide +kernel
theorem dL_told_23 : decode cL_told 23 = .ok (.goto 4, 3) := by decide +kernel
theorem dL_told_26 : decode cL_told 26 = .ok (.iconst 0, 1) := by decide +kernel
theorem dL_told_27 : decode cL_told 27 = .ok (.i2l, 1) := by decide +kernel
theorem dL_told_28 : decode cL_told 28 = .ok (.ladd, 1) := by decide +kernel
theorem dL_told_29 : decode cL_told 29 = .ok (.lmul, 1) := by decide +kernel
theorem dL_told_30 : decode cL_told 30 = .ok (.aload_n 0, 1) := by decide +kernel
theorem dL_told_31 : decode cL_told 31 = .ok (.invokevirtual 21, 3) := by decide +kernel
theorem dL_told_34 : decode cL_told 34 = .ok (.ifCond .eq 7, 3) := by decide +kernel
theorem dL_told_37 : decode cL_told 37 = .ok (.iconst 1, 1) := by decide +kernel
theorem dL_told_38 : decode cL_told 38 = .ok (.goto 4, 3) := by decide +kernel
theorem dL_told_41 : decode cL_told 41 = .ok (.iconst 0, 1) := by decide +kernel
theorem dL_told_42 : decode cL_told 42 = .ok (.i2l, 1) := by decide +kernel
theorem dL_told_43 : decode cL_told 43 = .ok (.ladd, 1) := by decide +kernel
theorem dL_told_44 : decode cL_told 44 = .ok (.lmul, 1) := by decide +kernel
theorem dL_told_45 : decode cL_told 45 = .ok (.aload_n 0, 1) := by decide +kernel
theorem dL_told_46 : decode cL_told 46 = .ok (.invokevirtual 24, 3) := by decide +kernel
theorem dL_told_49 : decode cL_told 49 = .ok (.i2l, 1) := by decide +kernel
theorem dL_told_50 : decode cL_told 50 = .ok (.ladd, 1) := by decide +kernel
theorem dL_told_51 : decode cL_told 51 = .ok (.lstore_n 1, 1) := by decide +kernel
theorem dL_told_52 : decode cL_told 52 = .ok (.iconst 0, 1) := by decide +kernel
theorem dL_told_53 : decode cL_told 53 = .ok (.istore_n 3, 1) := by decide +kernel
theorem dL_told_54 : decode cL_told 54 = .ok (.iload_n 3, 1) := by decide +kernel
theorem dL_told_55 : decode cL_told 55 = .ok (.bipush 8, 2) := by decide +kernel
theorem dL_told_57 : decode cL_told 57 = .ok (.if_icmp .ge 22, 3) := by decide +kernel
theorem dL_told_60 : decode cL_told 60 = .ok (.ldc2_w 9, 3) := by decide +kernel
theorem dL_told_63 : decode cL_told 63 = .ok (.lload_n 1, 1) := by decide +kernel
theorem dL_told_64 : decode cL_told 64 = .ok (.lmul, 1) := by decide +kernel
theorem dL_told_65 : decode cL_told 65 = .ok (.aload_n 0, 1) := by decide +kernel
theorem dL_told_66 : decode cL_told 66 = .ok (.iload_n 3, 1) := by decide +kernel
theorem dL_told_67 : decode cL_told 67 = .ok (.invokevirtual 27, 3) := by decide +kernel
theorem dL_told_70 : decode cL_told 70 = .ok (.i2l, 1) := by decide +kernel
theorem dL_told_71 : decode cL_told 71 = .ok (.ladd, 1) := by decide +kernel
theorem dL_told_72 : decode cL_told 72 = .ok (.lstore_n 1, 1) := by decide +kernel
theorem dL_told_73 : decode cL_told 73 = .ok (.iinc 3 1, 3) := by decide +kernel
theorem dL_told_76 : decode cL_told 76 = .ok (.goto (-22), 3) := by decide +kernel
theorem dL_told_79 : decode cL_told 79 = .ok (.iconst 0, 1) := by decide +kernel
theorem dL_told_80 : decode cL_told 80 = .ok (.istore_n 3, 1) := by decide +kernel
theorem dL_told_81 : decode cL_told 81 = .ok (.iload_n 3, 1) := by decide +kernel
theorem dL_told_82 : decode cL_told 82 = .ok (.bipush 60, 2) := by decide +kernel
theorem dL_told_84 : decode cL_told 84 = .ok (.if_icmp .ge 33, 3) := by decide +kernel
theorem dL_told_87 : decode cL_told 87 = .ok (.ldc2_w 9, 3) := by decide +kernel
theorem dL_told_90 : decode cL_told 90 = .ok (.lload_n 1, 1) := by decide +kernel
theorem dL_told_91 : decode cL_told 91 = .ok (.lmul, 1) := by decide +kernel
theorem dL_told_92 : decode cL_told 92 = .ok (.aload_n 0, 1) := by decide +kernel
theorem dL_told_93 : decode cL_told 93 = .ok (.iload_n 3, 1) := by decide +kernel
theorem dL_told_94 : decode cL_told 94 = .ok (.bipush 15, 2) := by decide +kernel
theorem dL_told_96 : decode cL_told 96 = .ok (.idiv, 1) := by decide +kernel
theorem dL_told_97 : decode cL_told 97 = .ok (.iload_n 3, 1) := by decide +kernel
theorem dL_told_98 : decode cL_told 98 = .ok (.iconst 5, 1) := by decide +kernel
theorem dL_told_99 : decode cL_told 99 = .ok (.idiv, 1) := by decide +kernel
theorem dL_told_100 : decode cL_told 100 = .ok (.iconst 3, 1) := by decide +kernel
theorem dL_told_101 : decode cL_told 101 = .ok (.irem, 1) := by decide +kernel
theorem dL_told_102 : decode cL_told 102 = .ok (.iload_n 3, 1) := by decide +kernel
theorem dL_told_103 : decode cL_told 103 = .ok (.iconst 5, 1) := by decide +kernel
theorem dL_told_104 : decode cL_told 104 = .ok (.irem, 1) := by decide +kernel
theorem dL_told_105 : decode cL_told 105 = .ok (.invokevirtual 31, 3) := by decide +kernel
theorem dL_told_108 : decode cL_told 108 = .ok (.i2l, 1) := by decide +kernel
theorem dL_told_109 : decode cL_told 109 = .ok (.ladd, 1) := by decide +kernel
theorem dL_told_110 : decode cL_told 110 = .ok (.lstore_n 1, 1) := by decide +kernel
theorem dL_told_111 : decode cL_told 111 = .ok (.iinc 3 1, 3) := by decide +kernel
theorem dL_told_114 : decode cL_told 114 = .ok (.goto (-33), 3) := by decide +kernel
theorem dL_told_117 : decode cL_told 117 = .ok (.iconst 0, 1) := by decide +kernel
theorem dL_told_118 : decode cL_told 118 = .ok (.istore_n 3, 1) := by decide +kernel
theorem dL_told_119 : decode cL_told 119 = .ok (.iload_n 3, 1) := by decide +kernel
theorem dL_told_120 : decode cL_told 120 = .ok (.bipush 64, 2) := by decide +kernel
theorem dL_told_122 : decode cL_told 122 = .ok (.if_icmp .ge 41, 3) := by decide +kernel
theorem dL_told_125 : decode cL_told 125 = .ok (.ldc2_w 9, 3) := by decide +kernel
theorem dL_told_128 : decode cL_told 128 = .ok (.ldc2_w 9, 3) := by decide +kernel
theorem dL_told_131 : decode cL_told 131 = .ok (.lload_n 1, 1) := by decide +kernel
theorem dL_told_132 : decode cL_told 132 = .ok (.lmul, 1) := by decide +kernel
theorem dL_told_133 : decode cL_told 133 = .ok (.aload_n 0, 1) := by decide +kernel
theorem dL_told_134 : decode cL_told 134 = .ok (.iload_n 3, 1) := by decide +kernel
theorem dL_told_135 : decode cL_told 135 = .ok (.invokevirtual 35, 3) := by decide +kernel
theorem dL_told_138 : decode cL_told 138 = .ok (.i2l, 1) := by decide +kernel
theorem dL_told_139 : decode cL_told 139 = .ok (.ladd, 1) := by decide +kernel
theorem dL_told_140 : decode cL_told 140 = .ok (.lmul, 1) := by decide +kernel
theorem dL_told_141 : decode cL_told 141 = .ok (.aload_n 0, 1) := by decide +kernel
theorem dL_told_142 : decode cL_told 142 = .ok (.iload_n 3, 1) := by decide +kernel
theorem dL_told_143 : decode cL_told 143 = .ok (.invokevirtual 38, 3) := by decide +kernel
theorem dL_told_146 : decode cL_told 146 = .ok (.ifCond .eq 7, 3) := by decide +kernel
theorem dL_told_149 : decode cL_told 149 = .ok (.iconst 1, 1) := by decide +kernel
theorem dL_told_150 : decode cL_told 150 = .ok (.goto 4, 3) := by decide +kernel
theorem dL_told_153 : decode cL_told 153 = .ok (.iconst 0, 1) := by decide +kernel
theorem dL_told_154 : decode cL_told 154 = .ok (.i2l, 1) := by decide +kernel
theorem dL_told_155 : decode cL_told 155 = .ok (.ladd, 1) := by decide +kernel
theorem dL_told_156 : decode cL_told 156 = .ok (.lstore_n 1, 1) := by decide +kernel
theorem dL_told_157 : decode cL_told 157 = .ok (.iinc 3 1, 3) := by decide +kernel
theorem dL_told_160 : decode cL_told 160 = .ok (.goto (-41), 3) := by decide +kernel
theorem dL_told_163 : decode cL_told 163 = .ok (.lload_n 1, 1) := by decide +kernel
theorem dL_told_164 : decode cL_told 164 = .ok (.lreturn, 1) := by decide +kernel
set_option maxRecDepth 20000 in
theorem ggL_lineOf_X4_line : GoodIn wsL_lineOf wsX4_line := goodIn_ca (goodIn_ca (goodIn_r _ [5, 6, 7, 8, 9, 10, 11, 12, 13, 14, 15, 16, 17, 18, 19, 20, 21, 22, 4, 23, 24, 25, 26, 27, 28, 29, 30, 31, 32, 33, 34, 35, 36, 37, 38, 39, 40, 41, 42] (by decide +kernel) (by decide +kernel)) (goodIn_sub (fun _ h => List.mem_cons_of_mem _ (List.mem_append_left _ (List.mem_append_right _ h))) (by decide +kernel))) (goodIn_sub (fun _ h => List.mem_cons_of_mem _ (List.mem_append_right _ h)) (by decide +kernel))
set_option maxRecDepth 20000 in
theorem gL_lineOf_X4_line : GoodIn wsL_lineOf (wsV RL 31 RX4 yX4_line wsX4_line) := goodIn_app (goodIn_of _ (by decide +kernel)) ggL_lineOf_X4_line
theorem dL_lineOf_0 : decode cL_lineOf 0 = .ok (.iconst (-1), 1) := by decide +kernel
theorem dL_lineOf_1 : decode cL_lineOf 1 = .ok (.istore_n 2, 1) := by decide +kernel
theorem dL_lineOf_2 : decode cL_lineOf 2 = .ok (.iconst 0, 1) := by decide +kernel
theorem dL_lineOf_3 : decode cL_lineOf 3 = .ok (.istore_n 3, 1) := by decide +kernel
theorem dL_lineOf_4 : decode cL_lineOf 4 = .ok (.iload_n 3, 1) := by decide +kernel
theorem dL_lineOf_5 : decode cL_lineOf 5 = .ok (.bipush 12, 2) := by decide +kernel
theorem dL_lineOf_7 : decode cL_lineOf 7 = .ok (.if_icmp .ge 30, 3) := by decide +kernel
theorem dL_lineOf_10 : decode cL_lineOf 10 = .ok (.aload_n 0, 1) := by decide +kernel
theorem dL_lineOf_11 : decode cL_lineOf 11 = .ok (.iload_n 3, 1) := by decide +kernel
theorem dL_lineOf_12 : decode cL_lineOf 12 = .ok (.iconst 3, 1) := by decide +kernel
theorem dL_lineOf_13 : decode cL_lineOf 13 = .ok (.idiv, 1) := by decide +kernel
theorem dL_lineOf_14 : decode cL_lineOf 14 = .ok (.iload_n 3, 1) := by decide +kernel
theorem dL_lineOf_15 : decode cL_lineOf 15 = .ok (.iconst 3, 1) := by decide +kernel
theorem dL_lineOf_16 : decode cL_lineOf 16 = .ok (.irem, 1) := by decide +kernel
theorem dL_lineOf_17 : decode cL_lineOf 17 = .ok (.iconst 0, 1) := by decide +kernel
theorem dL_lineOf_18 : decode cL_lineOf 18 = .ok (.invokevirtual 31, 3) := by decide +kernel
theorem dL_lineOf_21 : decode cL_lineOf 21 = .ok (.iload_n 1, 1) := by decide +kernel
theorem dL_lineOf_22 : decode cL_lineOf 22 = .ok (.if_icmp .ne 7, 3) := by decide +kernel
theorem dL_lineOf_25 : decode cL_lineOf 25 = .ok (.iload_n 3, 1) := by decide +kernel
theorem dL_lineOf_26 : decode cL_lineOf 26 = .ok (.goto 4, 3) := by decide +kernel
theorem dL_lineOf_29 : decode cL_lineOf 29 = .ok (.iload_n 2, 1) := by decide +kernel
theorem dL_lineOf_30 : decode cL_lineOf 30 = .ok (.istore_n 2, 1) := by decide +kernel
theorem dL_lineOf_31 : decode cL_lineOf 31 = .ok (.iinc 3 1, 3) := by decide +kernel
theorem dL_lineOf_34 : decode cL_lineOf 34 = .ok (.goto (-30), 3) := by decide +kernel
theorem dL_lineOf_37 : decode cL_lineOf 37 = .ok (.iload_n 2, 1) := by decide +kernel
theorem dL_lineOf_38 : decode cL_lineOf 38 = .ok (.ireturn, 1) := by decide +kernel
set_option maxRecDepth 20000 in
theorem ggL_writes_X4_count : GoodIn wsL_writes wsX4_count := goodIn_ca (goodIn_r _ [5, 6, 7, 8, 9, 205, 206, 207, 208, 209, 210, 211, 212, 213, 214] (by decide +kernel) (by decide +kernel)) (goodIn_sub (fun _ h => List.mem_cons_of_mem _ (List.mem_append_left _ (List.mem_append_left _ (List.mem_append_right _ h)))) (by decide +kernel))
set_option maxRecDepth 20000 in
theorem gL_writes_X4_count : GoodIn wsL_writes (wsV RL 27 RX4 yX4_count wsX4_count) := goodIn_app (goodIn_of _ (by decide +kernel)) ggL_writes_X4_count
set_option maxRecDepth 20000 in
theorem ggL_writes_X4_ifWritten : GoodIn wsL_writes wsX4_ifWritten := goodIn_ca (goodIn_r _ [13, 8, 14, 15, 16, 4, 17, 18, 19, 20, 21, 22, 23, 24, 25, 26, 27, 28, 29, 30, 31, 32, 33, 34, 35, 36, 37, 38, 39, 40, 41, 42, 43, 44, 45, 46, 47, 48, 49, 50, 51, 52, 53, 54, 55, 56, 57, 58, 59, 60, 61, 62, 63, 64, 65, 66, 67, 68, 69, 70, 71, 205, 206, 207, 208, 209, 210, 211, 212, 213, 214, 215, 216, 217, 218, 219, 220, 221, 222, 223] (by decide +kernel) (by decide +kernel)) (goodIn_sub (fun _ h => List.mem_cons_of_mem _ (List.mem_append_left _ (List.mem_append_right _ h))) (by decide +kernel))
set_option maxRecDepth 20000 in
theorem gL_writes_X4_ifWritten : GoodIn wsL_writes (wsV RL 42 RX4 yX4_ifWritten wsX4_ifWritten) := goodIn_app (goodIn_of _ (by decide +kernel)) ggL_writes_X4_ifWritten
set_option maxRecDepth 20000 in
theorem ggL_writes_X4_isIn : GoodIn wsL_writes wsX4_isIn := goodIn_r _ [75, 8, 76, 77, 205, 206, 207, 208, 209, 210, 211, 212, 213, 214, 215, 216, 217, 218, 219, 220, 221, 222, 223] (by decide +kernel) (by decide +kernel)
set_option maxRecDepth 20000 in
theorem gL_writes_X4_isIn : GoodIn wsL_writes (wsV RL 21 RX4 yX4_isIn wsX4_isIn) := goodIn_app (goodIn_of _ (by decide +kernel)) ggL_writes_X4_isIn
set_option maxRecDepth 20000 in
theorem ggL_writes_X4_charge : GoodIn wsL_writes wsX4_charge := goodIn_r _ [81, 8, 76, 82, 205, 206, 207, 208, 209, 210, 211, 212, 213, 214, 215, 216, 217, 218, 219, 220, 221, 222, 223] (by decide +kernel) (by decide +kernel)
set_option maxRecDepth 20000 in
theorem gL_writes_X4_charge : GoodIn wsL_writes (wsV RL 11 RX4 yX4_charge wsX4_charge) := goodIn_app (goodIn_of _ (by decide +kernel)) ggL_writes_X4_charge
set_option maxRecDepth 20000 in
theorem ggL_writes_L_lineOf : GoodIn wsL_writes wsL_lineOf := goodIn_ca (goodIn_ca (goodIn_r _ [86, 87, 88, 89, 4, 90, 18, 19, 6, 7, 8, 76, 91, 92, 93, 48, 94, 50, 95, 96, 58, 57, 51, 52, 205, 206, 207, 208, 209, 210, 211, 212, 213, 214, 215, 216, 217, 218, 219, 220, 221, 222, 223] (by decide +kernel) (by decide +kernel)) (goodIn_sub (fun _ h => List.mem_cons_of_mem _ (List.mem_append_left _ (List.mem_append_right _ h))) (by decide +kernel))) (goodIn_sub (fun _ h => List.mem_cons_of_mem _ (List.mem_append_left _ (List.mem_append_left _ (List.mem_append_right _ h)))) (by decide +kernel))
set_option maxRecDepth 20000 in
theorem gL_writes_L_lineOf : GoodIn wsL_writes (va_wsS RL 45 yL_lineOf wsL_lineOf) := goodIn_app (goodIn_of _ (by decide +kernel)) ggL_writes_L_lineOf
set_option maxRecDepth 20000 in
theorem ggL_writes_X4_line : GoodIn wsL_writes wsX4_line := goodIn_ca (goodIn_ca (goodIn_r _ [90, 18, 19, 6, 7, 8, 76, 91, 92, 93, 48, 94, 50, 95, 96, 58, 57, 51, 4, 52, 205, 206, 207, 208, 209, 210, 211, 212, 213, 214, 215, 216, 217, 218, 219, 220, 221, 222, 223] (by decide +kernel) (by decide +kernel)) (goodIn_sub (fun _ h => List.mem_cons_of_mem _ (List.mem_append_left _ (List.mem_append_right _ h))) (by decide +kernel))) (goodIn_sub (fun _ h => List.mem_cons_of_mem _ (List.mem_append_left _ (List.mem_append_left _ (List.mem_append_right _ h)))) (by decide +kernel))
set_option maxRecDepth 20000 in
theorem gL_writes_X4_line : GoodIn wsL_writes (wsV RL 31 RX4 yX4_line wsX4_line) := goodIn_app (goodIn_of _ (by decide +kernel)) ggL_writes_X4_line
set_option maxRecDepth 20000 in
theorem ggL_writes_X4_write : GoodIn wsL_writes wsX4_write := goodIn_ca (goodIn_ca (goodIn_ca (goodIn_r _ [100, 6, 7, 101, 8, 15, 16, 4, 17, 18, 19, 20, 21, 22, 102, 103, 104, 105, 106, 107, 14, 108, 109, 110, 111, 112, 113, 114, 115, 116, 117, 118, 119, 120, 121, 122, 123, 124, 125, 126, 26, 127, 28, 128, 129, 130, 131, 132, 133, 134, 135, 136, 137, 138, 139, 140, 48, 141, 50, 142, 95, 96, 58, 57, 143, 144, 145, 146, 147, 148, 149, 150, 29, 30, 31, 32, 33, 34, 151, 152, 153, 154, 43, 44, 45, 46, 47, 49, 51, 52, 53, 54, 55, 56, 59, 60, 61, 62, 63, 64, 65, 66, 67, 68, 69, 70, 155, 156, 157, 158, 159, 160, 161, 162, 163, 164, 165, 166, 167, 168, 169, 170, 171, 38, 39, 41, 42, 172, 173, 174, 175, 176, 177, 178, 179, 180, 181, 182, 183, 184, 185, 186, 187, 188, 205, 206, 207, 208, 209, 210, 211, 212, 213, 214, 224, 225, 226, 215, 216, 217, 218, 219, 220, 221, 222, 223] (by decide +kernel) (by decide +kernel)) (goodIn_sub (fun _ h => List.mem_cons_of_mem _ (List.mem_append_left _ (List.mem_append_left _ (List.mem_append_right _ h)))) (by decide +kernel))) (goodIn_sub (fun _ h => List.mem_cons_of_mem _ (List.mem_append_left _ (List.mem_append_right _ h))) (by decide +kernel))) (goodIn_sub (fun _ h => List.mem_cons_of_mem _ (List.mem_append_right _ h)) (by decide +kernel))
set_option maxRecDepth 20000 in
theorem gL_writes_X4_write : GoodIn wsL_writes (wsV RL 51 RX4 yX4_write wsX4_write) := goodIn_app (goodIn_of _ (by decide +kernel)) ggL_writes_X4_write
set_option maxRecDepth 20000 in
theorem ggL_writes_X4_isFound : GoodIn wsL_writes wsX4_isFound := goodIn_ca (goodIn_r _ [192, 8, 15, 16, 4, 17, 18, 19, 20, 21, 22, 193, 194, 195, 26, 196, 133, 134, 28, 161, 184, 185, 186, 48, 187, 146, 188, 46, 47, 49, 50, 51, 52, 205, 206, 207, 208, 209, 210, 211, 212, 213, 214, 215, 216, 217, 218, 219, 220, 221, 222, 223] (by decide +kernel) (by decide +kernel)) (goodIn_sub (fun _ h => List.mem_cons_of_mem _ (List.mem_append_left _ (List.mem_append_right _ h))) (by decide +kernel))
set_option maxRecDepth 20000 in
theorem gL_writes_X4_isFound : GoodIn wsL_writes (wsV RL 38 RX4 yX4_isFound wsX4_isFound) := goodIn_app (goodIn_of _ (by decide +kernel)) ggL_writes_X4_isFound
set_option maxRecDepth 20000 in
theorem ggL_writes_X4_onDisk : GoodIn wsL_writes wsX4_onDisk := goodIn_ca (goodIn_r _ [200, 8, 15, 16, 4, 17, 18, 19, 20, 21, 22, 201, 202, 203, 26, 204, 128, 205, 206, 207, 208, 209, 210, 211, 212, 213, 214] (by decide +kernel) (by decide +kernel)) (goodIn_sub (fun _ h => List.mem_cons_of_mem _ (List.mem_append_left _ (List.mem_append_right _ h))) (by decide +kernel))
set_option maxRecDepth 20000 in
theorem gL_writes_X4_onDisk : GoodIn wsL_writes (wsV RL 35 RX4 yX4_onDisk wsX4_onDisk) := goodIn_app (goodIn_of _ (by decide +kernel)) ggL_writes_X4_onDisk
