theorem dX3_init_0 : decode cX3_init 0 = .ok (.aload_n 0, 1) := by decide +kernel
theorem dX3_init_1 : decode cX3_init 1 = .ok (.invokespecial 3, 3) := by decide +kernel
theorem dX3_init_4 : decode cX3_init 4 = .ok (.aload_n 0, 1) := by decide +kernel
theorem dX3_init_5 : decode cX3_init 5 = .ok (.bipush 80, 2) := by decide +kernel
theorem dX3_init_7 : decode cX3_init 7 = .ok (.newarray .char, 2) := by decide +kernel
theorem dX3_init_9 : decode cX3_init 9 = .ok (.putfield 9, 3) := by decide +kernel
theorem dX3_init_12 : decode cX3_init 12 = .ok (.return_, 1) := by decide +kernel
theorem dX3_append_0 : decode cX3_append 0 = .ok (.aload_n 0, 1) := by decide +kernel
theorem dX3_append_1 : decode cX3_append 1 = .ok (.getfield 15, 3) := by decide +kernel
theorem dX3_append_4 : decode cX3_append 4 = .ok (.ifCond .lt 32, 3) := by decide +kernel
theorem dX3_append_7 : decode cX3_append 7 = .ok (.aload_n 0, 1) := by decide +kernel
theorem dX3_append_8 : decode cX3_append 8 = .ok (.getfield 15, 3) := by decide +kernel
theorem dX3_append_11 : decode cX3_append 11 = .ok (.bipush 80, 2) := by decide +kernel
theorem dX3_append_13 : decode cX3_append 13 = .ok (.if_icmp .ge 23, 3) := by decide +kernel
theorem dX3_append_16 : decode cX3_append 16 = .ok (.aload_n 0, 1) := by decide +kernel
theorem dX3_append_17 : decode cX3_append 17 = .ok (.getfield 9, 3) := by decide +kernel
theorem dX3_append_20 : decode cX3_append 20 = .ok (.aload_n 0, 1) := by decide +kernel
theorem dX3_append_21 : decode cX3_append 21 = .ok (.getfield 15, 3) := by decide +kernel
theorem dX3_append_24 : decode cX3_append 24 = .ok (.iload_n 1, 1) := by decide +kernel
theorem dX3_append_25 : decode cX3_append 25 = .ok (.castore, 1) := by decide +kernel
theorem dX3_append_26 : decode cX3_append 26 = .ok (.aload_n 0, 1) := by decide +kernel
theorem dX3_append_27 : decode cX3_append 27 = .ok (.dup, 1) := by decide +kernel
theorem dX3_append_28 : decode cX3_append 28 = .ok (.getfield 15, 3) := by decide +kernel
theorem dX3_append_31 : decode cX3_append 31 = .ok (.iconst 1, 1) := by decide +kernel
theorem dX3_append_32 : decode cX3_append 32 = .ok (.iadd, 1) := by decide +kernel
theorem dX3_append_33 : decode cX3_append 33 = .ok (.putfield 15, 3) := by decide +kernel
theorem dX3_append_36 : decode cX3_append 36 = .ok (.return_, 1) := by decide +kernel
theorem dX3_rewind_0 : decode cX3_rewind 0 = .ok (.aload_n 0, 1) := by decide +kernel
theorem dX3_rewind_1 : decode cX3_rewind 1 = .ok (.iconst 0, 1) := by decide +kernel
theorem dX3_rewind_2 : decode cX3_rewind 2 = .ok (.putfield 19, 3) := by decide +kernel
theorem dX3_rewind_5 : decode cX3_rewind 5 = .ok (.return_, 1) := by decide +kernel
set_option maxRecDepth 20000 in
theorem ggX3_firstError_X3_rewind : GoodIn wsX3_firstError wsX3_rewind := goodIn_r _ [7, 1, 118, 119, 120, 121, 122, 123] (by decide +kernel) (by decide +kernel)
set_option maxRecDepth 20000 in
theorem gX3_firstError_X3_rewind : GoodIn wsX3_firstError (wsV RX3 22 RX3 yX3_rewind wsX3_rewind) := goodIn_app (goodIn_of _ (by decide +kernel)) ggX3_firstError_X3_rewind
set_option maxRecDepth 20000 in
theorem ggX3_firstError_X3_takeCommand : GoodIn wsX3_firstError wsX3_takeCommand := goodIn_r _ [11, 12, 1, 13, 14, 15, 16, 17, 6, 18, 2, 19, 20, 21, 22, 23, 24, 25, 26, 27, 28, 29, 30, 31, 32, 33, 34, 35, 36, 37, 38, 39, 40, 41, 42, 43, 44, 45, 46, 47, 48, 49, 50, 51, 52, 53, 54, 55, 56, 57, 58, 59, 60, 61, 62, 63, 64, 65, 66, 67, 68, 69, 70, 71, 72, 73, 74, 75, 76, 77, 78, 79, 80, 81, 82, 83, 84, 85, 86, 87, 88, 89, 90, 91, 92, 93, 94, 95, 96, 97, 98, 99, 100, 101, 102, 103, 104, 105, 106, 107, 108, 109, 110, 111, 112, 113, 114, 115, 116, 117, 118, 119, 120, 121, 122, 123] (by decide +kernel) (by decide +kernel)
set_option maxRecDepth 20000 in
theorem gX3_firstError_X3_takeCommand : GoodIn wsX3_firstError (wsV RX3 25 RX3 yX3_takeCommand wsX3_takeCommand) := goodIn_app (goodIn_of _ (by decide +kernel)) ggX3_firstError_X3_takeCommand
set_option maxRecDepth 20000 in
theorem ggX3_firstError_X3_takeSign : GoodIn wsX3_firstError wsX3_takeSign := goodIn_r _ [117, 1, 15, 16, 17, 6, 18, 2, 19, 118, 119, 120, 121, 122, 123] (by decide +kernel) (by decide +kernel)
set_option maxRecDepth 20000 in
theorem gX3_firstError_X3_takeSign : GoodIn wsX3_firstError (wsV RX3 29 RX3 yX3_takeSign wsX3_takeSign) := goodIn_app (goodIn_of _ (by decide +kernel)) ggX3_firstError_X3_takeSign
theorem dX3_firstError_0 : decode cX3_firstError 0 = .ok (.aload_n 0, 1) := by decide +kernel
theorem dX3_firstError_1 : decode cX3_firstError 1 = .ok (.invokevirtual 22, 3) := by decide +kernel
theorem dX3_firstError_4 : decode cX3_firstError 4 = .ok (.iconst 0, 1) := by decide +kernel
theorem dX3_firstError_5 : decode cX3_firstError 5 = .ok (.istore_n 1, 1) := by decide +kernel
theorem dX3_firstError_6 : decode cX3_firstError 6 = .ok (.iload_n 1, 1) := by decide +kernel
theorem dX3_firstError_7 : decode cX3_firstError 7 = .ok (.bipush 80, 2) := by decide +kernel
theorem dX3_firstError_9 : decode cX3_firstError 9 = .ok (.if_icmp .ge 48, 3) := by decide +kernel
theorem dX3_firstError_12 : decode cX3_firstError 12 = .ok (.aload_n 0, 1) := by decide +kernel
theorem dX3_firstError_13 : decode cX3_firstError 13 = .ok (.invokevirtual 25, 3) := by decide +kernel
theorem dX3_firstError_16 : decode cX3_firstError 16 = .ok (.ifCond .ne 8, 3) := by decide +kernel
theorem dX3_firstError_19 : decode cX3_firstError 19 = .ok (.aload_n 0, 1) := by decide +kernel
theorem dX3_firstError_20 : decode cX3_firstError 20 = .ok (.getfield 19, 3) := by decide +kernel
theorem dX3_firstError_23 : decode cX3_firstError 23 = .ok (.ireturn, 1) := by decide +kernel
theorem dX3_firstError_24 : decode cX3_firstError 24 = .ok (.aload_n 0, 1) := by decide +kernel
theorem dX3_firstError_25 : decode cX3_firstError 25 = .ok (.getfield 19, 3) := by decide +kernel
theorem dX3_firstError_28 : decode cX3_firstError 28 = .ok (.aload_n 0, 1) := by decide +kernel
theorem dX3_firstError_29 : decode cX3_firstError 29 = .ok (.getfield 15, 3) := by decide +kernel
theorem dX3_firstError_32 : decode cX3_firstError 32 = .ok (.if_icmp .ne 5, 3) := by decide +kernel
theorem dX3_firstError_35 : decode cX3_firstError 35 = .ok (.iconst (-1), 1) := by decide +kernel
theorem dX3_firstError_36 : decode cX3_firstError 36 = .ok (.ireturn, 1) := by decide +kernel
theorem dX3_firstError_37 : decode cX3_firstError 37 = .ok (.aload_n 0, 1) := by decide +kernel
theorem dX3_firstError_38 : decode cX3_firstError 38 = .ok (.bipush 59, 2) := by decide +kernel
theorem dX3_firstError_40 : decode cX3_firstError 40 = .ok (.invokevirtual 29, 3) := by decide +kernel
theorem dX3_firstError_43 : decode cX3_firstError 43 = .ok (.ifCond .ne 8, 3) := by decide +kernel
theorem dX3_firstError_46 : decode cX3_firstError 46 = .ok (.aload_n 0, 1) := by decide +kernel
theorem dX3_firstError_47 : decode cX3_firstError 47 = .ok (.getfield 19, 3) := by decide +kernel
theorem dX3_firstError_50 : decode cX3_firstError 50 = .ok (.ireturn, 1) := by decide +kernel
theorem dX3_firstError_51 : decode cX3_firstError 51 = .ok (.iinc 1 1, 3) := by decide +kernel
theorem dX3_firstError_54 : decode cX3_firstError 54 = .ok (.goto (-48), 3) := by decide +kernel
theorem dX3_firstError_57 : decode cX3_firstError 57 = .ok (.aload_n 0, 1) := by decide +kernel
theorem dX3_firstError_58 : decode cX3_firstError 58 = .ok (.getfield 19, 3) := by decide +kernel
theorem dX3_firstError_61 : decode cX3_firstError 61 = .ok (.ireturn, 1) := by decide +kernel
theorem dX3_nextSign_0 : decode cX3_nextSign 0 = .ok (.aload_n 0, 1) := by decide +kernel
theorem dX3_nextSign_1 : decode cX3_nextSign 1 = .ok (.getfield 19, 3) := by decide +kernel
theorem dX3_nextSign_4 : decode cX3_nextSign 4 = .ok (.ifCond .lt 27, 3) := by decide +kernel
theorem dX3_nextSign_7 : decode cX3_nextSign 7 = .ok (.aload_n 0, 1) := by decide +kernel
theorem dX3_nextSign_8 : decode cX3_nextSign 8 = .ok (.getfield 19, 3) := by decide +kernel
theorem dX3_nextSign_11 : decode cX3_nextSign 11 = .ok (.aload_n 0, 1) := by decide +kernel
theorem dX3_nextSign_12 : decode cX3_nextSign 12 = .ok (.getfield 15, 3) := by decide +kernel
theorem dX3_nextSign_15 : decode cX3_nextSign 15 = .ok (.if_icmp .ge 16, 3) := by decide +kernel
theorem dX3_nextSign_18 : decode cX3_nextSign 18 = .ok (.aload_n 0, 1) := by decide +kernel
theorem dX3_nextSign_19 : decode cX3_nextSign 19 = .ok (.getfield 19, 3) := by decide +kernel
theorem dX3_nextSign_22 : decode cX3_nextSign 22 = .ok (.bipush 80, 2) := by decide +kernel
theorem dX3_nextSign_24 : decode cX3_nextSign 24 = .ok (.if_icmp .ge 7, 3) := by decide +kernel
theorem dX3_nextSign_27 : decode cX3_nextSign 27 = .ok (.iconst 1, 1) := by decide +kernel
theorem dX3_nextSign_28 : decode cX3_nextSign 28 = .ok (.goto 4, 3) := by decide +kernel
theorem dX3_nextSign_31 : decode cX3_nextSign 31 = .ok (.iconst 0, 1) := by decide +kernel
theorem dX3_nextSign_32 : decode cX3_nextSign 32 = .ok (.istore_n 1, 1) := by decide +kernel
theorem dX3_nextSign_33 : decode cX3_nextSign 33 = .ok (.iload_n 1, 1) := by decide +kernel
theorem dX3_nextSign_34 : decode cX3_nextSign 34 = .ok (.ifCond .eq 15, 3) := by decide +kernel
theorem dX3_nextSign_37 : decode cX3_nextSign 37 = .ok (.aload_n 0, 1) := by decide +kernel
theorem dX3_nextSign_38 : decode cX3_nextSign 38 = .ok (.getfield 9, 3) := by decide +kernel
theorem dX3_nextSign_41 : decode cX3_nextSign 41 = .ok (.aload_n 0, 1) := by decide +kernel
theorem dX3_nextSign_42 : decode cX3_nextSign 42 = .ok (.getfield 19, 3) := by decide +kernel
theorem dX3_nextSign_45 : decode cX3_nextSign 45 = .ok (.caload, 1) := by decide +kernel
theorem dX3_nextSign_46 : decode cX3_nextSign 46 = .ok (.goto 4, 3) := by decide +kernel
theorem dX3_nextSign_49 : decode cX3_nextSign 49 = .ok (.iconst 0, 1) := by decide +kernel
theorem dX3_nextSign_50 : decode cX3_nextSign 50 = .ok (.ireturn, 1) := by decide +kernel
set_option maxRecDepth 20000 in
theorem ggX3_takeSign_X3_nextSign : GoodIn wsX3_takeSign wsX3_nextSign := goodIn_r _ [6, 1, 7, 8, 9, 10, 11, 12, 13, 14] (by decide +kernel) (by decide +kernel)
set_option maxRecDepth 20000 in
theorem gX3_takeSign_X3_nextSign : GoodIn wsX3_takeSign (wsV RX3 33 RX3 yX3_nextSign wsX3_nextSign) := goodIn_app (goodIn_of _ (by decide +kernel)) ggX3_takeSign_X3_nextSign
theorem dX3_takeSign_0 : decode cX3_takeSign 0 = .ok (.aload_n 0, 1) := by decide +kernel
theorem dX3_takeSign_1 : decode cX3_takeSign 1 = .ok (.invokevirtual 33, 3) := by decide +kernel
theorem dX3_takeSign_4 : decode cX3_takeSign 4 = .ok (.iload_n 1, 1) := by decide +kernel
theorem dX3_takeSign_5 : decode cX3_takeSign 5 = .ok (.if_icmp .eq 5, 3) := by decide +kernel
theorem dX3_takeSign_8 : decode cX3_takeSign 8 = .ok (.iconst 0, 1) := by decide +kernel
theorem dX3_takeSign_9 : decode cX3_takeSign 9 = .ok (.ireturn, 1) := by decide +kernel
theorem dX3_takeSign_10 : decode cX3_takeSign 10 = .ok (.aload_n 0, 1) := by decide +kernel
theorem dX3_takeSign_11 : decode cX3_takeSign 11 = .ok (.dup, 1) := by decide +kernel
theorem dX3_takeSign_12 : decode cX3_takeSign 12 = .ok (.getfield 19, 3) := by decide +kernel
theorem dX3_takeSign_15 : decode cX3_takeSign 15 = .ok (.iconst 1, 1) := by decide +kernel
theorem dX3_takeSign_16 : decode cX3_takeSign 16 = .ok (.iadd, 1) := by decide +kernel
theorem dX3_takeSign_17 : decode cX3_takeSign 17 = .ok (.putfield 19, 3) := by decide +kernel
theorem dX3_takeSign_20 : decode cX3_takeSign 20 = .ok (.iconst 1, 1) := by decide +kernel
theorem dX3_takeSign_21 : decode cX3_takeSign 21 = .ok (.ireturn, 1) := by decide +kernel
set_option maxRecDepth 20000 in
theorem ggX3_takeCommand_X3_nextSign : GoodIn wsX3_takeCommand wsX3_nextSign := goodIn_r _ [9, 2, 10, 11, 110, 111, 112, 113, 114, 115] (by decide +kernel) (by decide +kernel)
set_option maxRecDepth 20000 in
theorem gX3_takeCommand_X3_nextSign : GoodIn wsX3_takeCommand (wsV RX3 33 RX3 yX3_nextSign wsX3_nextSign) := goodIn_app (goodIn_of _ (by decide +kernel)) ggX3_takeCommand_X3_nextSign
set_option maxRecDepth 20000 in
theorem ggX3_takeCommand_J0_indexOf_0f7a4 : GoodIn wsX3_takeCommand wsJ0_indexOf_0f7a4 := goodIn_r _ [16, 17, 18, 19, 15, 20, 21, 22, 23, 24, 25, 26, 27, 28, 29, 30, 31, 32, 33, 34, 35, 36, 37, 38, 39, 40, 41, 42, 43, 44, 45, 46, 47, 48, 49, 50, 51, 52, 53, 54, 55, 56, 57, 58, 59, 60, 61, 62, 63, 64, 65, 66, 67, 68, 69, 70, 71, 72, 73, 74, 75, 76, 77, 78, 79, 80, 81, 82, 83, 84, 85, 86, 87, 88, 89, 90, 91, 92, 93, 94, 95, 96, 97, 98, 99, 100] (by decide +kernel) (by decide +kernel)
set_option maxRecDepth 20000 in
theorem gX3_takeCommand_J0_indexOf_0f7a4 : GoodIn wsX3_takeCommand (wsV RX3 39 RJ0 yJ0_indexOf_0f7a4 wsJ0_indexOf_0f7a4) := goodIn_app (goodIn_of _ (by decide +kernel)) ggX3_takeCommand_J0_indexOf_0f7a4
set_option maxRecDepth 20000 in
theorem ggX3_takeCommand_X3_takeNumber : GoodIn wsX3_takeCommand wsX3_takeNumber := goodIn_r _ [104, 2, 10, 105, 41, 42, 43, 5, 6, 7, 8, 9, 11, 110, 111, 112, 113, 114, 115] (by decide +kernel) (by decide +kernel)
set_option maxRecDepth 20000 in
theorem gX3_takeCommand_X3_takeNumber : GoodIn wsX3_takeCommand (wsV RX3 48 RX3 yX3_takeNumber wsX3_takeNumber) := goodIn_app (goodIn_of _ (by decide +kernel)) ggX3_takeCommand_X3_takeNumber
set_option maxRecDepth 20000 in
theorem ggX3_takeCommand_X3_takeSign : GoodIn wsX3_takeCommand wsX3_takeSign := goodIn_r _ [109, 2, 5, 6, 7, 8, 9, 10, 11, 110, 111, 112, 113, 114, 115] (by decide +kernel) (by decide +kernel)
set_option maxRecDepth 20000 in
theorem gX3_takeCommand_X3_takeSign : GoodIn wsX3_takeCommand (wsV RX3 29 RX3 yX3_takeSign wsX3_takeSign) := goodIn_app (goodIn_of _ (by decide +kernel)) ggX3_takeCommand_X3_takeSign
theorem dX3_takeCommand_0 : decode cX3_takeCommand 0 = .ok (.aload_n 0, 1) := by decide +kernel
theorem dX3_takeCommand_1 : decode cX3_takeCommand 1 = .ok (.ldc 37, 2) := by decide +kernel
theorem dX3_takeCommand_3 : decode cX3_takeCommand 3 = .ok (.aload_n 0, 1) := by decide +kernel
theorem dX3_takeCommand_4 : decode cX3_takeCommand 4 = .ok (.invokevirtual 33, 3) := by decide +kernel
theorem dX3_takeCommand_7 : decode cX3_takeCommand 7 = .ok (.invokevirtual 39, 3) := by decide +kernel
theorem dX3_takeCommand_10 : decode cX3_takeCommand 10 = .ok (.putfield 45, 3) := by decide +kernel
theorem dX3_takeCommand_13 : decode cX3_takeCommand 13 = .ok (.aload_n 0, 1) := by decide +kernel
theorem dX3_takeCommand_14 : decode cX3_takeCommand 14 = .ok (.getfield 45, 3) := by decide +kernel
theorem dX3_takeCommand_17 : decode cX3_takeCommand 17 = .ok (.ifCond .ge 5, 3) := by decide +kernel
theorem dX3_takeCommand_20 : decode cX3_takeCommand 20 = .ok (.iconst 0, 1) := by decide +kernel
theorem dX3_takeCommand_21 : decode cX3_takeCommand 21 = .ok (.ireturn, 1) := by decide +kernel
theorem dX3_takeCommand_22 : decode cX3_takeCommand 22 = .ok (.aload_n 0, 1) := by decide +kernel
theorem dX3_takeCommand_23 : decode cX3_takeCommand 23 = .ok (.dup, 1) := by decide +kernel
theorem dX3_takeCommand_24 : decode cX3_takeCommand 24 = .ok (.getfield 19, 3) := by decide +kernel
theorem dX3_takeCommand_27 : decode cX3_takeCommand 27 = .ok (.iconst 1, 1) := by decide +kernel
theorem dX3_takeCommand_28 : decode cX3_takeCommand 28 = .ok (.iadd, 1) := by decide +kernel
theorem dX3_takeCommand_29 : decode cX3_takeCommand 29 = .ok (.putfield 19, 3) := by decide +kernel
theorem dX3_takeCommand_32 : decode cX3_takeCommand 32 = .ok (.aload_n 0, 1) := by decide +kernel
theorem dX3_takeCommand_33 : decode cX3_takeCommand 33 = .ok (.getfield 45, 3) := by decide +kernel
theorem dX3_takeCommand_36 : decode cX3_takeCommand 36 = .ok (.tableswitch 163 0 3 #[32, 88, 113, 138], 32) := by decide +kernel
theorem dX3_takeCommand_68 : decode cX3_takeCommand 68 = .ok (.aload_n 0, 1) := by decide +kernel
theorem dX3_takeCommand_69 : decode cX3_takeCommand 69 = .ok (.aload_n 0, 1) := by decide +kernel
theorem dX3_takeCommand_70 : decode cX3_takeCommand 70 = .ok (.iconst 0, 1) := by decide +kernel
theorem dX3_takeCommand_71 : decode cX3_takeCommand 71 = .ok (.bipush 63, 2) := by decide +kernel
theorem dX3_takeCommand_73 : decode cX3_takeCommand 73 = .ok (.invokevirtual 48, 3) := by decide +kernel
theorem dX3_takeCommand_76 : decode cX3_takeCommand 76 = .ok (.putfield 52, 3) := by decide +kernel
theorem dX3_takeCommand_79 : decode cX3_takeCommand 79 = .ok (.aload_n 0, 1) := by decide +kernel
theorem dX3_takeCommand_80 : decode cX3_takeCommand 80 = .ok (.getfield 52, 3) := by decide +kernel
theorem dX3_takeCommand_83 : decode cX3_takeCommand 83 = .ok (.iconst (-1), 1) := by decide +kernel
theorem dX3_takeCommand_84 : decode cX3_takeCommand 84 = .ok (.if_icmp .eq 12, 3) := by decide +kernel
theorem dX3_takeCommand_87 : decode cX3_takeCommand 87 = .ok (.aload_n 0, 1) := by decide +kernel
theorem dX3_takeCommand_88 : decode cX3_takeCommand 88 = .ok (.bipush 44, 2) := by decide +kernel
theorem dX3_takeCommand_90 : decode cX3_takeCommand 90 = .ok (.invokevirtual 29, 3) := by decide +kernel
theorem dX3_takeCommand_93 : decode cX3_takeCommand 93 = .ok (.ifCond .ne 5, 3) := by decide +kernel
theorem dX3_takeCommand_96 : decode cX3_takeCommand 96 = .ok (.iconst 0, 1) := by decide +kernel
theorem dX3_takeCommand_97 : decode cX3_takeCommand 97 = .ok (.ireturn, 1) := by decide +kernel
theorem dX3_takeCommand_98 : decode cX3_takeCommand 98 = .ok (.aload_n 0, 1) := by decide +kernel
theorem dX3_takeCommand_99 : decode cX3_takeCommand 99 = .ok (.aload_n 0, 1) := by decide +kernel
theorem dX3_takeCommand_100 : decode cX3_takeCommand 100 = .ok (.iconst 0, 1) := by decide +kernel
theorem dX3_takeCommand_101 : decode cX3_takeCommand 101 = .ok (.sipush 999, 3) := by decide +kernel
theorem dX3_takeCommand_104 : decode cX3_takeCommand 104 = .ok (.invokevirtual 48, 3) := by decide +kernel
theorem dX3_takeCommand_107 : decode cX3_takeCommand 107 = .ok (.putfield 55, 3) := by decide +kernel
theorem dX3_takeCommand_110 : decode cX3_takeCommand 110 = .ok (.aload_n 0, 1) := by decide +kernel
theorem dX3_takeCommand_111 : decode cX3_takeCommand 111 = .ok (.getfield 55, 3) := by decide +kernel
theorem dX3_takeCommand_114 : decode cX3_takeCommand 114 = .ok (.iconst (-1), 1) := by decide +kernel
theorem dX3_takeCommand_115 : decode cX3_takeCommand 115 = .ok (.if_icmp .eq 7, 3) := by decide +kernel
theorem dX3_takeCommand_118 : decode cX3_takeCommand 118 = .ok (.iconst 1, 1) := by decide +kernel
theorem dX3_takeCommand_119 : decode cX3_takeCommand 119 = .ok (.goto 4, 3) := by decide +kernel
theorem dX3_takeCommand_122 : decode cX3_takeCommand 122 = .ok (.iconst 0, 1) := by decide +kernel
theorem dX3_takeCommand_123 : decode cX3_takeCommand 123 = .ok (.ireturn, 1) := by decide +kernel
theorem dX3_takeCommand_124 : decode cX3_takeCommand 124 = .ok (.aload_n 0, 1) := by decide +kernel
theorem dX3_takeCommand_125 : decode cX3_takeCommand 125 = .ok (.aload_n 0, 1) := by decide +kernel
theorem dX3_takeCommand_126 : decode cX3_takeCommand 126 = .ok (.iconst 0, 1) := by decide +kernel
theorem dX3_takeCommand_127 : decode cX3_takeCommand 127 = .ok (.bipush 63, 2) := by decide +kernel
theorem dX3_takeCommand_129 : decode cX3_takeCommand 129 = .ok (.invokevirtual 48, 3) := by decide +kernel
theorem dX3_takeCommand_132 : decode cX3_takeCommand 132 = .ok (.putfield 52, 3) := by decide +kernel
theorem dX3_takeCommand_135 : decode cX3_takeCommand 135 = .ok (.aload_n 0, 1) := by decide +kernel
theorem dX3_takeCommand_136 : decode cX3_takeCommand 136 = .ok (.getfield 52, 3) := by decide +kernel
theorem dX3_takeCommand_139 : decode cX3_takeCommand 139 = .ok (.iconst (-1), 1) := by decide +kernel
theorem dX3_takeCommand_140 : decode cX3_takeCommand 140 = .ok (.if_icmp .eq 7, 3) := by decide +kernel
theorem dX3_takeCommand_143 : decode cX3_takeCommand 143 = .ok (.iconst 1, 1) := by decide +kernel
theorem dX3_takeCommand_144 : decode cX3_takeCommand 144 = .ok (.goto 4, 3) := by decide +kernel
theorem dX3_takeCommand_147 : decode cX3_takeCommand 147 = .ok (.iconst 0, 1) := by decide +kernel
theorem dX3_takeCommand_148 : decode cX3_takeCommand 148 = .ok (.ireturn, 1) := by decide +kernel
theorem dX3_takeCommand_149 : decode cX3_takeCommand 149 = .ok (.aload_n 0, 1) := by decide +kernel
theorem dX3_takeCommand_150 : decode cX3_takeCommand 150 = .ok (.aload_n 0, 1) := by decide +kernel
theorem dX3_takeCommand_151 : decode cX3_takeCommand 151 = .ok (.iconst 0, 1) := by decide +kernel
theorem dX3_takeCommand_152 : decode cX3_takeCommand 152 = .ok (.bipush 15, 2) := by decide +kernel
theorem dX3_takeCommand_154 : decode cX3_takeCommand 154 = .ok (.invokevirtual 48, 3) := by decide +kernel
theorem dX3_takeCommand_157 : decode cX3_takeCommand 157 = .ok (.putfield 52, 3) := by decide +kernel
theorem dX3_takeCommand_160 : decode cX3_takeCommand 160 = .ok (.aload_n 0, 1) := by decide +kernel
theorem dX3_takeCommand_161 : decode cX3_takeCommand 161 = .ok (.getfield 52, 3) := by decide +kernel
theorem dX3_takeCommand_164 : decode cX3_takeCommand 164 = .ok (.iconst (-1), 1) := by decide +kernel
theorem dX3_takeCommand_165 : decode cX3_takeCommand 165 = .ok (.if_icmp .eq 7, 3) := by decide +kernel
theorem dX3_takeCommand_168 : decode cX3_takeCommand 168 = .ok (.iconst 1, 1) := by decide +kernel
theorem dX3_takeCommand_169 : decode cX3_takeCommand 169 = .ok (.goto 4, 3) := by decide +kernel
theorem dX3_takeCommand_172 : decode cX3_takeCommand 172 = .ok (.iconst 0, 1) := by decide +kernel
theorem dX3_takeCommand_173 : decode cX3_takeCommand 173 = .ok (.ireturn, 1) := by decide +kernel
theorem dX3_takeCommand_174 : decode cX3_takeCommand 174 = .ok (.aload_n 0, 1) := by decide +kernel
theorem dX3_takeCommand_175 : decode cX3_takeCommand 175 = .ok (.aload_n 0, 1) := by decide +kernel
theorem dX3_takeCommand_176 : decode cX3_takeCommand 176 = .ok (.iconst 1, 1) := by decide +kernel
theorem dX3_takeCommand_177 : decode cX3_takeCommand 177 = .ok (.bipush 99, 2) := by decide +kernel
theorem dX3_takeCommand_179 : decode cX3_takeCommand 179 = .ok (.invokevirtual 48, 3) := by decide +kernel
theorem dX3_takeCommand_182 : decode cX3_takeCommand 182 = .ok (.putfield 52, 3) := by decide +kernel
theorem dX3_takeCommand_185 : decode cX3_takeCommand 185 = .ok (.aload_n 0, 1) := by decide +kernel
theorem dX3_takeCommand_186 : decode cX3_takeCommand 186 = .ok (.getfield 52, 3) := by decide +kernel
theorem dX3_takeCommand_189 : decode cX3_takeCommand 189 = .ok (.iconst (-1), 1) := by decide +kernel
theorem dX3_takeCommand_190 : decode cX3_takeCommand 190 = .ok (.if_icmp .eq 7, 3) := by decide +kernel
theorem dX3_takeCommand_193 : decode cX3_takeCommand 193 = .ok (.iconst 1, 1) := by decide +kernel
theorem dX3_takeCommand_194 : decode cX3_takeCommand 194 = .ok (.goto 4, 3) := by decide +kernel
theorem dX3_takeCommand_197 : decode cX3_takeCommand 197 = .ok (.iconst 0, 1) := by decide +kernel
theorem dX3_takeCommand_198 : decode cX3_takeCommand 198 = .ok (.ireturn, 1) := by decide +kernel
theorem dX3_takeCommand_199 : decode cX3_takeCommand 199 = .ok (.iconst 1, 1) := by decide +kernel
theorem dX3_takeCommand_200 : decode cX3_takeCommand 200 = .ok (.ireturn, 1) := by decide +kernel
set_option maxRecDepth 20000 in
theorem ggX3_takeNumber_X3_nextSign : GoodIn wsX3_takeNumber wsX3_nextSign := goodIn_r _ [11, 1, 2, 12, 13, 14, 15, 16, 17, 18] (by decide +kernel) (by decide +kernel)
set_option maxRecDepth 20000 in
theorem gX3_takeNumber_X3_nextSign : GoodIn wsX3_takeNumber (wsV RX3 33 RX3 yX3_nextSign wsX3_nextSign) := goodIn_app (goodIn_of _ (by decide +kernel)) ggX3_takeNumber_X3_nextSign
theorem dX3_takeNumber_0 : decode cX3_takeNumber 0 = .ok (.iconst (-1), 1) := by decide +kernel
theorem dX3_takeNumber_1 : decode cX3_takeNumber 1 = .ok (.istore_n 3, 1) := by decide +kernel
theorem dX3_takeNumber_2 : decode cX3_takeNumber 2 = .ok (.aload_n 0, 1) := by decide +kernel
theorem dX3_takeNumber_3 : decode cX3_takeNumber 3 = .ok (.getfield 19, 3) := by decide +kernel
theorem dX3_takeNumber_6 : decode cX3_takeNumber 6 = .ok (.aload_n 0, 1) := by decide +kernel
theorem dX3_takeNumber_7 : decode cX3_takeNumber 7 = .ok (.getfield 15, 3) := by decide +kernel
theorem dX3_takeNumber_10 : decode cX3_takeNumber 10 = .ok (.if_icmp .ge 75, 3) := by decide +kernel
theorem dX3_takeNumber_13 : decode cX3_takeNumber 13 = .ok (.aload_n 0, 1) := by decide +kernel
theorem dX3_takeNumber_14 : decode cX3_takeNumber 14 = .ok (.invokevirtual 33, 3) := by decide +kernel
theorem dX3_takeNumber_17 : decode cX3_takeNumber 17 = .ok (.istore 4, 2) := by decide +kernel
theorem dX3_takeNumber_19 : decode cX3_takeNumber 19 = .ok (.iload 4, 2) := by decide +kernel
theorem dX3_takeNumber_21 : decode cX3_takeNumber 21 = .ok (.bipush 48, 2) := by decide +kernel
theorem dX3_takeNumber_23 : decode cX3_takeNumber 23 = .ok (.if_icmp .lt 10, 3) := by decide +kernel
theorem dX3_takeNumber_26 : decode cX3_takeNumber 26 = .ok (.iload 4, 2) := by decide +kernel
theorem dX3_takeNumber_28 : decode cX3_takeNumber 28 = .ok (.bipush 57, 2) := by decide +kernel
theorem dX3_takeNumber_30 : decode cX3_takeNumber 30 = .ok (.if_icmp .le 5, 3) := by decide +kernel
theorem dX3_takeNumber_33 : decode cX3_takeNumber 33 = .ok (.iload_n 3, 1) := by decide +kernel
theorem dX3_takeNumber_34 : decode cX3_takeNumber 34 = .ok (.ireturn, 1) := by decide +kernel
theorem dX3_takeNumber_35 : decode cX3_takeNumber 35 = .ok (.iload_n 3, 1) := by decide +kernel
theorem dX3_takeNumber_36 : decode cX3_takeNumber 36 = .ok (.iconst 0, 1) := by decide +kernel
theorem dX3_takeNumber_37 : decode cX3_takeNumber 37 = .ok (.invokestatic 58, 3) := by decide +kernel
theorem dX3_takeNumber_40 : decode cX3_takeNumber 40 = .ok (.bipush 10, 2) := by decide +kernel
theorem dX3_takeNumber_42 : decode cX3_takeNumber 42 = .ok (.imul, 1) := by decide +kernel
theorem dX3_takeNumber_43 : decode cX3_takeNumber 43 = .ok (.iload 4, 2) := by decide +kernel
theorem dX3_takeNumber_45 : decode cX3_takeNumber 45 = .ok (.bipush 48, 2) := by decide +kernel
theorem dX3_takeNumber_47 : decode cX3_takeNumber 47 = .ok (.isub, 1) := by decide +kernel
theorem dX3_takeNumber_48 : decode cX3_takeNumber 48 = .ok (.iadd, 1) := by decide +kernel
theorem dX3_takeNumber_49 : decode cX3_takeNumber 49 = .ok (.istore 5, 2) := by decide +kernel
theorem dX3_takeNumber_51 : decode cX3_takeNumber 51 = .ok (.iload_n 3, 1) := by decide +kernel
theorem dX3_takeNumber_52 : decode cX3_takeNumber 52 = .ok (.ifCond .eq 15, 3) := by decide +kernel
theorem dX3_takeNumber_55 : decode cX3_takeNumber 55 = .ok (.iload 5, 2) := by decide +kernel
theorem dX3_takeNumber_57 : decode cX3_takeNumber 57 = .ok (.iload_n 1, 1) := by decide +kernel
theorem dX3_takeNumber_58 : decode cX3_takeNumber 58 = .ok (.if_icmp .lt 9, 3) := by decide +kernel
theorem dX3_takeNumber_61 : decode cX3_takeNumber 61 = .ok (.iload 5, 2) := by decide +kernel
theorem dX3_takeNumber_63 : decode cX3_takeNumber 63 = .ok (.iload_n 2, 1) := by decide +kernel
theorem dX3_takeNumber_64 : decode cX3_takeNumber 64 = .ok (.if_icmp .le 5, 3) := by decide +kernel
theorem dX3_takeNumber_67 : decode cX3_takeNumber 67 = .ok (.iconst (-1), 1) := by decide +kernel
theorem dX3_takeNumber_68 : decode cX3_takeNumber 68 = .ok (.ireturn, 1) := by decide +kernel
theorem dX3_takeNumber_69 : decode cX3_takeNumber 69 = .ok (.iload 5, 2) := by decide +kernel
theorem dX3_takeNumber_71 : decode cX3_takeNumber 71 = .ok (.istore_n 3, 1) := by decide +kernel
theorem dX3_takeNumber_72 : decode cX3_takeNumber 72 = .ok (.aload_n 0, 1) := by decide +kernel
theorem dX3_takeNumber_73 : decode cX3_takeNumber 73 = .ok (.dup, 1) := by decide +kernel
theorem dX3_takeNumber_74 : decode cX3_takeNumber 74 = .ok (.getfield 19, 3) := by decide +kernel
theorem dX3_takeNumber_77 : decode cX3_takeNumber 77 = .ok (.iconst 1, 1) := by decide +kernel
theorem dX3_takeNumber_78 : decode cX3_takeNumber 78 = .ok (.iadd, 1) := by decide +kernel
theorem dX3_takeNumber_79 : decode cX3_takeNumber 79 = .ok (.putfield 19, 3) := by decide +kernel
theorem dX3_takeNumber_82 : decode cX3_takeNumber 82 = .ok (.goto (-80), 3) := by decide +kernel
theorem dX3_takeNumber_85 : decode cX3_takeNumber 85 = .ok (.iload_n 3, 1) := by decide +kernel
theorem dX3_takeNumber_86 : decode cX3_takeNumber 86 = .ok (.ireturn, 1) := by decide +kernel
set_option maxRecDepth 20000 in
theorem ggX4_init_X1_init : GoodIn wsX4_init wsX1_init := goodIn_r _ [17, 18, 2, 3, 19, 20, 21, 22, 23, 24, 25, 26, 27, 28, 29, 30, 31, 32, 33, 34, 35, 36, 37, 38, 39, 40, 41, 72, 73, 74, 75, 76, 77, 78, 79, 80, 53, 54, 55, 56, 57, 58, 59] (by decide +kernel) (by decide +kernel)
set_option maxRecDepth 20000 in
theorem gX4_init_X1_init_n9 : GoodIn wsX4_init (wsX1_init) := ggX4_init_X1_init
set_option maxRecDepth 20000 in
theorem ggX4_init_X0_init : GoodIn wsX4_init wsX0_init := goodIn_r _ [44, 45, 2, 3, 46, 47, 5, 6, 16, 17, 18, 19, 20, 21, 22, 23, 24, 25, 26, 27, 28, 29, 30, 31, 32, 33, 34, 35, 36, 37, 38, 39, 40, 41, 63, 64, 65, 53, 54, 55, 56, 57, 58, 59, 72, 73, 74, 75, 76, 77, 78, 79, 80] (by decide +kernel) (by decide +kernel)
set_option maxRecDepth 20000 in
theorem gX4_init_X0_init : GoodIn wsX4_init (wsX0_init) := ggX4_init_X0_init
set_option maxRecDepth 20000 in
theorem ggX4_init_X3_init : GoodIn wsX4_init wsX3_init := goodIn_r _ [49, 50, 2, 3, 51, 52, 66, 67, 68, 69, 70, 71] (by decide +kernel) (by decide +kernel)
set_option maxRecDepth 20000 in
theorem gX4_init_X3_init_n25 : GoodIn wsX4_init (wsX3_init) := ggX4_init_X3_init
theorem dX4_init_0 : decode cX4_init 0 = .ok (.aload_n 0, 1) := by decide +kernel
theorem dX4_init_1 : decode cX4_init 1 = .ok (.invokespecial 1, 3) := by decide +kernel
theorem dX4_init_4 : decode cX4_init 4 = .ok (.aload_n 0, 1) := by decide +kernel
theorem dX4_init_5 : decode cX4_init 5 = .ok (.new 7, 3) := by decide +kernel
theorem dX4_init_8 : decode cX4_init 8 = .ok (.dup, 1) := by decide +kernel
theorem dX4_init_9 : decode cX4_init 9 = .ok (.invokespecial 9, 3) := by decide +kernel
theorem dX4_init_12 : decode cX4_init 12 = .ok (.putfield 10, 3) := by decide +kernel
theorem dX4_init_15 : decode cX4_init 15 = .ok (.aload_n 0, 1) := by decide +kernel
theorem dX4_init_16 : decode cX4_init 16 = .ok (.new 16, 3) := by decide +kernel
theorem dX4_init_19 : decode cX4_init 19 = .ok (.dup, 1) := by decide +kernel
theorem dX4_init_20 : decode cX4_init 20 = .ok (.invokespecial 18, 3) := by decide +kernel
theorem dX4_init_23 : decode cX4_init 23 = .ok (.putfield 19, 3) := by decide +kernel
theorem dX4_init_26 : decode cX4_init 26 = .ok (.aload_n 0, 1) := by decide +kernel
theorem dX4_init_27 : decode cX4_init 27 = .ok (.new 23, 3) := by decide +kernel
theorem dX4_init_30 : decode cX4_init 30 = .ok (.dup, 1) := by decide +kernel
theorem dX4_init_31 : decode cX4_init 31 = .ok (.invokespecial 25, 3) := by decide +kernel
theorem dX4_init_34 : decode cX4_init 34 = .ok (.putfield 26, 3) := by decide +kernel
theorem dX4_init_37 : decode cX4_init 37 = .ok (.return_, 1) := by decide +kernel
set_option maxRecDepth 20000 in
theorem ggX4_write_X4_requireBlock : GoodIn wsX4_write wsX4_requireBlock := goodIn_ca (goodIn_r _ [8, 9, 10, 11, 12, 7, 13] (by decide +kernel) (by decide +kernel)) (goodIn_sub (fun _ h => List.mem_cons_of_mem _ (List.mem_append_left _ (List.mem_append_right _ h))) (by decide +kernel))
set_option maxRecDepth 20000 in
theorem gX4_write_X4_requireBlock : GoodIn wsX4_write (va_wsS RX4 30 yX4_requireBlock wsX4_requireBlock) := goodIn_app (goodIn_of _ (by decide +kernel)) ggX4_write_X4_requireBlock
set_option maxRecDepth 20000 in
theorem ggX4_write_X4_requirePower : GoodIn wsX4_write wsX4_requirePower := goodIn_ca (goodIn_r _ [17, 18, 19, 4, 20, 144, 145, 146, 147, 148, 149, 150, 151, 152, 153] (by decide +kernel) (by decide +kernel)) (goodIn_sub (fun _ h => List.mem_cons_of_mem _ (List.mem_append_right _ h)) (by decide +kernel))
set_option maxRecDepth 20000 in
theorem gX4_write_X4_requirePower : GoodIn wsX4_write (wsV RX4 41 RX4 yX4_requirePower wsX4_requirePower) := goodIn_app (goodIn_of _ (by decide +kernel)) ggX4_write_X4_requirePower
set_option maxRecDepth 20000 in
theorem ggX4_write_X0_save : GoodIn wsX4_write wsX0_save := goodIn_r _ [25, 26, 27, 28, 29, 30, 31, 32, 33, 34, 35, 36, 37, 38, 39, 40, 41, 42, 43, 44, 45, 46, 47, 48, 49, 50, 51, 52, 53, 54, 55, 56, 57, 58, 59, 60, 61, 62, 63, 64, 65, 66, 67, 154, 155, 156, 147, 148, 149, 150, 151, 152, 153, 157, 158, 159, 160, 161, 162, 163, 164, 165] (by decide +kernel) (by decide +kernel)
set_option maxRecDepth 20000 in
theorem gX4_write_X0_save : GoodIn wsX4_write (wsV RX4 44 RX0 yX0_save wsX0_save) := goodIn_app (goodIn_of _ (by decide +kernel)) ggX4_write_X0_save
set_option maxRecDepth 20000 in
theorem ggX4_write_X1_writeBlock : GoodIn wsX4_write wsX1_writeBlock := goodIn_r _ [71, 50, 51, 49, 12, 7, 13, 72, 73, 74, 40, 75, 42, 76, 77, 78, 79, 80, 81, 82, 83, 84, 85, 86, 56, 87, 58, 88, 89, 90, 91, 92, 93, 63, 62, 94, 95, 96, 97, 98, 99, 100, 101, 102, 103, 104, 105, 106, 107, 108, 109, 110, 111, 112, 113, 114, 115, 116, 117, 118, 43, 48, 119, 120, 121, 122, 123, 124, 125, 126, 127, 128, 129, 130, 60, 61, 131, 132, 133, 134, 64, 135, 136, 137, 138, 139, 140, 141, 142, 67, 143, 147, 148, 149, 150, 151, 152, 153, 157, 158, 159, 160, 161, 162, 163, 164, 165] (by decide +kernel) (by decide +kernel)
set_option maxRecDepth 20000 in
theorem gX4_write_X1_writeBlock : GoodIn wsX4_write (wsV RX4 48 RX1 yX1_writeBlock wsX1_writeBlock) := goodIn_app (goodIn_of _ (by decide +kernel)) ggX4_write_X1_writeBlock
theorem dX4_write_0 : decode cX4_write 0 = .ok (.iload_n 1, 1) := by decide +kernel
theorem dX4_write_1 : decode cX4_write 1 = .ok (.invokestatic 30, 3) := by decide +kernel
theorem dX4_write_4 : decode cX4_write 4 = .ok (.iload_n 2, 1) := by decide +kernel
theorem dX4_write_5 : decode cX4_write 5 = .ok (.ifCond .lt 10, 3) := by decide +kernel
theorem dX4_write_8 : decode cX4_write 8 = .ok (.iload_n 2, 1) := by decide +kernel
theorem dX4_write_9 : decode cX4_write 9 = .ok (.sipush 999, 3) := by decide +kernel
theorem dX4_write_12 : decode cX4_write 12 = .ok (.if_icmp .le 13, 3) := by decide +kernel
theorem dX4_write_15 : decode cX4_write 15 = .ok (.new 34, 3) := by decide +kernel
theorem dX4_write_18 : decode cX4_write 18 = .ok (.dup, 1) := by decide +kernel
theorem dX4_write_19 : decode cX4_write 19 = .ok (.ldc 36, 2) := by decide +kernel
theorem dX4_write_21 : decode cX4_write 21 = .ok (.invokespecial 38, 3) := by decide +kernel
theorem dX4_write_24 : decode cX4_write 24 = .ok (.athrow, 1) := by decide +kernel
theorem dX4_write_25 : decode cX4_write 25 = .ok (.aload_n 0, 1) := by decide +kernel
theorem dX4_write_26 : decode cX4_write 26 = .ok (.invokevirtual 41, 3) := by decide +kernel
theorem dX4_write_29 : decode cX4_write 29 = .ok (.aload_n 0, 1) := by decide +kernel
theorem dX4_write_30 : decode cX4_write 30 = .ok (.getfield 19, 3) := by decide +kernel
theorem dX4_write_33 : decode cX4_write 33 = .ok (.aload_n 0, 1) := by decide +kernel
theorem dX4_write_34 : decode cX4_write 34 = .ok (.getfield 10, 3) := by decide +kernel
theorem dX4_write_37 : decode cX4_write 37 = .ok (.invokevirtual 44, 3) := by decide +kernel
theorem dX4_write_40 : decode cX4_write 40 = .ok (.aload_n 0, 1) := by decide +kernel
theorem dX4_write_41 : decode cX4_write 41 = .ok (.getfield 10, 3) := by decide +kernel
theorem dX4_write_44 : decode cX4_write 44 = .ok (.iload_n 1, 1) := by decide +kernel
theorem dX4_write_45 : decode cX4_write 45 = .ok (.iload_n 2, 1) := by decide +kernel
theorem dX4_write_46 : decode cX4_write 46 = .ok (.invokevirtual 48, 3) := by decide +kernel
theorem dX4_write_49 : decode cX4_write 49 = .ok (.ireturn, 1) := by decide +kernel
set_option maxRecDepth 20000 in
theorem ggX4_read_X4_requireBlock : GoodIn wsX4_read wsX4_requireBlock := goodIn_ca (goodIn_r _ [6, 7, 8, 9, 10, 5, 11] (by decide +kernel) (by decide +kernel)) (goodIn_sub (fun _ h => List.mem_cons_of_mem _ (List.mem_append_left _ (List.mem_append_right _ h))) (by decide +kernel))
set_option maxRecDepth 20000 in
theorem gX4_read_X4_requireBlock : GoodIn wsX4_read (va_wsS RX4 30 yX4_requireBlock wsX4_requireBlock) := goodIn_app (goodIn_of _ (by decide +kernel)) ggX4_read_X4_requireBlock
set_option maxRecDepth 20000 in
theorem ggX4_read_X4_requirePower : GoodIn wsX4_read wsX4_requirePower := goodIn_ca (goodIn_r _ [15, 16, 17, 2, 18, 89, 90, 91, 92, 93, 94, 95, 96, 97, 98] (by decide +kernel) (by decide +kernel)) (goodIn_sub (fun _ h => List.mem_cons_of_mem _ (List.mem_append_right _ h)) (by decide +kernel))
set_option maxRecDepth 20000 in
theorem gX4_read_X4_requirePower : GoodIn wsX4_read (wsV RX4 41 RX4 yX4_requirePower wsX4_requirePower) := goodIn_app (goodIn_of _ (by decide +kernel)) ggX4_read_X4_requirePower
set_option maxRecDepth 20000 in
theorem ggX4_read_X0_save : GoodIn wsX4_read wsX0_save := goodIn_r _ [23, 24, 25, 26, 27, 28, 29, 30, 31, 32, 33, 34, 35, 36, 37, 38, 39, 40, 41, 42, 43, 44, 45, 46, 47, 48, 49, 50, 51, 52, 53, 54, 55, 56, 57, 58, 59, 60, 61, 62, 63, 64, 65, 99, 100, 101, 92, 93, 94, 95, 96, 97, 98, 102, 103, 104, 105, 106, 107, 108, 109, 110] (by decide +kernel) (by decide +kernel)
set_option maxRecDepth 20000 in
theorem gX4_read_X0_save : GoodIn wsX4_read (wsV RX4 44 RX0 yX0_save wsX0_save) := goodIn_app (goodIn_of _ (by decide +kernel)) ggX4_read_X0_save
set_option maxRecDepth 20000 in
theorem ggX4_read_X1_readBlock : GoodIn wsX4_read wsX1_readBlock := goodIn_r _ [69, 40, 48, 70, 71, 72, 73, 54, 74, 65, 75, 76, 77, 78, 56, 79, 5, 80, 81, 82, 83, 84, 62, 60, 85, 86, 87, 38, 88, 41, 10, 11, 92, 93, 94, 95, 96, 97, 98, 102, 103, 104, 105, 106, 107, 108, 109, 110] (by decide +kernel) (by decide +kernel)
set_option maxRecDepth 20000 in
theorem gX4_read_X1_readBlock : GoodIn wsX4_read (wsV RX4 52 RX1 yX1_readBlock wsX1_readBlock) := goodIn_app (goodIn_of _ (by decide +kernel)) ggX4_read_X1_readBlock
theorem dX4_read_0 : decode cX4_read 0 = .ok (.iload_n 1, 1) := by decide +kernel
theorem dX4_read_1 : decode cX4_read 1 = .ok (.invokestatic 30, 3) := by decide +kernel
theorem dX4_read_4 : decode cX4_read 4 = .ok (.aload_n 0, 1) := by decide +kernel
theorem dX4_read_5 : decode cX4_read 5 = .ok (.invokevirtual 41, 3) := by decide +kernel
theorem dX4_read_8 : decode cX4_read 8 = .ok (.aload_n 0, 1) := by decide +kernel
theorem dX4_read_9 : decode cX4_read 9 = .ok (.getfield 19, 3) := by decide +kernel
theorem dX4_read_12 : decode cX4_read 12 = .ok (.aload_n 0, 1) := by decide +kernel
theorem dX4_read_13 : decode cX4_read 13 = .ok (.getfield 10, 3) := by decide +kernel
theorem dX4_read_16 : decode cX4_read 16 = .ok (.invokevirtual 44, 3) := by decide +kernel
theorem dX4_read_19 : decode cX4_read 19 = .ok (.aload_n 0, 1) := by decide +kernel
theorem dX4_read_20 : decode cX4_read 20 = .ok (.getfield 10, 3) := by decide +kernel
theorem dX4_read_23 : decode cX4_read 23 = .ok (.iload_n 1, 1) := by decide +kernel
theorem dX4_read_24 : decode cX4_read 24 = .ok (.invokevirtual 52, 3) := by decide +kernel
theorem dX4_read_27 : decode cX4_read 27 = .ok (.ireturn, 1) := by decide +kernel
set_option maxRecDepth 20000 in
theorem ggX4_destage_X4_requireStripe : GoodIn wsX4_destage wsX4_requireStripe := goodIn_ca (goodIn_r _ [6, 7, 8] (by decide +kernel) (by decide +kernel)) (goodIn_sub (fun _ h => List.mem_cons_of_mem _ (List.mem_append_left _ (List.mem_append_right _ h))) (by decide +kernel))
set_option maxRecDepth 20000 in
theorem gX4_destage_X4_requireStripe : GoodIn wsX4_destage (va_wsS RX4 56 yX4_requireStripe wsX4_requireStripe) := goodIn_app (goodIn_of _ (by decide +kernel)) ggX4_destage_X4_requireStripe
set_option maxRecDepth 20000 in
theorem ggX4_destage_X4_requireDestaging : GoodIn wsX4_destage wsX4_requireDestaging := goodIn_ca (goodIn_r _ [12, 13, 14, 2, 15, 16, 17, 18, 19, 20, 21, 22, 95, 96, 97, 98, 99, 100, 101, 102, 103, 104, 105, 106, 107, 108, 109, 110, 111, 112, 113] (by decide +kernel) (by decide +kernel)) (goodIn_sub (fun _ h => List.mem_cons_of_mem _ (List.mem_append_right _ h)) (by decide +kernel))
set_option maxRecDepth 20000 in
theorem gX4_destage_X4_requireDestaging : GoodIn wsX4_destage (wsV RX4 59 RX4 yX4_requireDestaging wsX4_requireDestaging) := goodIn_app (goodIn_of _ (by decide +kernel)) ggX4_destage_X4_requireDestaging
set_option maxRecDepth 20000 in
theorem ggX4_destage_X0_save : GoodIn wsX4_destage wsX0_save := goodIn_r _ [27, 28, 29, 30, 31, 32, 33, 34, 35, 36, 37, 38, 39, 40, 41, 18, 42, 21, 43, 44, 45, 46, 47, 48, 49, 50, 51, 20, 52, 53, 54, 55, 56, 57, 58, 59, 60, 61, 62, 63, 64, 65, 66, 114, 115, 116, 98, 99, 100, 101, 102, 103, 104, 105, 106, 107, 108, 109, 110, 111, 112, 113] (by decide +kernel) (by decide +kernel)
set_option maxRecDepth 20000 in
theorem gX4_destage_X0_save : GoodIn wsX4_destage (wsV RX4 44 RX0 yX0_save wsX0_save) := goodIn_app (goodIn_of _ (by decide +kernel)) ggX4_destage_X0_save
set_option maxRecDepth 20000 in
theorem ggX4_destage_X1_destageStripe : GoodIn wsX4_destage wsX1_destageStripe := goodIn_r _ [70, 21, 71, 72, 73, 74, 50, 75, 76, 77, 55, 78, 62, 57, 79, 5, 80, 81, 82, 83, 18, 84, 43, 48, 85, 86, 87, 88, 89, 90, 91, 92, 93, 94, 98, 99, 100, 101, 102, 103, 104, 105, 106, 107, 108, 109, 110, 111, 112, 113] (by decide +kernel) (by decide +kernel)
set_option maxRecDepth 20000 in
theorem gX4_destage_X1_destageStripe : GoodIn wsX4_destage (wsV RX4 62 RX1 yX1_destageStripe wsX1_destageStripe) := goodIn_app (goodIn_of _ (by decide +kernel)) ggX4_destage_X1_destageStripe
theorem dX4_destage_0 : decode cX4_destage 0 = .ok (.iload_n 1, 1) := by decide +kernel
theorem dX4_destage_1 : decode cX4_destage 1 = .ok (.invokestatic 56, 3) := by decide +kernel
theorem dX4_destage_4 : decode cX4_destage 4 = .ok (.aload_n 0, 1) := by decide +kernel
theorem dX4_destage_5 : decode cX4_destage 5 = .ok (.invokevirtual 59, 3) := by decide +kernel
theorem dX4_destage_8 : decode cX4_destage 8 = .ok (.aload_n 0, 1) := by decide +kernel
theorem dX4_destage_9 : decode cX4_destage 9 = .ok (.getfield 19, 3) := by decide +kernel
theorem dX4_destage_12 : decode cX4_destage 12 = .ok (.aload_n 0, 1) := by decide +kernel
theorem dX4_destage_13 : decode cX4_destage 13 = .ok (.getfield 10, 3) := by decide +kernel
theorem dX4_destage_16 : decode cX4_destage 16 = .ok (.invokevirtual 44, 3) := by decide +kernel
theorem dX4_destage_19 : decode cX4_destage 19 = .ok (.aload_n 0, 1) := by decide +kernel
theorem dX4_destage_20 : decode cX4_destage 20 = .ok (.getfield 10, 3) := by decide +kernel
theorem dX4_destage_23 : decode cX4_destage 23 = .ok (.iload_n 1, 1) := by decide +kernel
theorem dX4_destage_24 : decode cX4_destage 24 = .ok (.invokevirtual 62, 3) := by decide +kernel
theorem dX4_destage_27 : decode cX4_destage 27 = .ok (.ireturn, 1) := by decide +kernel
set_option maxRecDepth 20000 in
theorem ggX4_destageAll_X4_requireDestaging : GoodIn wsX4_destageAll wsX4_requireDestaging := goodIn_ca (goodIn_r _ [7, 8, 9, 2, 10, 11, 12, 13, 14, 15, 16, 17, 94, 95, 96, 97, 98, 99, 100, 101, 102, 103, 104, 105, 106, 107, 108, 109, 110, 111, 112] (by decide +kernel) (by decide +kernel)) (goodIn_sub (fun _ h => List.mem_cons_of_mem _ (List.mem_append_right _ h)) (by decide +kernel))
set_option maxRecDepth 20000 in
theorem gX4_destageAll_X4_requireDestaging : GoodIn wsX4_destageAll (wsV RX4 59 RX4 yX4_requireDestaging wsX4_requireDestaging) := goodIn_app (goodIn_of _ (by decide +kernel)) ggX4_destageAll_X4_requireDestaging
set_option maxRecDepth 20000 in
theorem ggX4_destageAll_X0_save : GoodIn wsX4_destageAll wsX0_save := goodIn_r _ [22, 23, 24, 25, 26, 27, 28, 29, 30, 31, 32, 33, 34, 35, 36, 13, 37, 16, 38, 39, 40, 41, 42, 43, 44, 45, 46, 15, 47, 48, 49, 50, 51, 52, 53, 54, 55, 56, 57, 58, 59, 60, 61, 113, 114, 115, 97, 98, 99, 100, 101, 102, 103, 104, 105, 106, 107, 108, 109, 110, 111, 112] (by decide +kernel) (by decide +kernel)
set_option maxRecDepth 20000 in
theorem gX4_destageAll_X0_save : GoodIn wsX4_destageAll (wsV RX4 44 RX0 yX0_save wsX0_save) := goodIn_app (goodIn_of _ (by decide +kernel)) ggX4_destageAll_X0_save
set_option maxRecDepth 20000 in
theorem ggX4_destageAll_X1_destageStripes : GoodIn wsX4_destageAll wsX1_destageStripes := goodIn_r _ [65, 66, 67, 68, 13, 69, 16, 70, 71, 72, 73, 45, 74, 75, 76, 50, 77, 57, 52, 78, 6, 79, 80, 81, 82, 83, 38, 43, 84, 85, 86, 87, 88, 89, 90, 91, 92, 93, 97, 98, 99, 100, 101, 102, 103, 104, 105, 106, 107, 108, 109, 110, 111, 112] (by decide +kernel) (by decide +kernel)
set_option maxRecDepth 20000 in
theorem gX4_destageAll_X1_destageStripes : GoodIn wsX4_destageAll (wsV RX4 65 RX1 yX1_destageStripes wsX1_destageStripes) := goodIn_app (goodIn_of _ (by decide +kernel)) ggX4_destageAll_X1_destageStripes
theorem dX4_destageAll_0 : decode cX4_destageAll 0 = .ok (.aload_n 0, 1) := by decide +kernel
theorem dX4_destageAll_1 : decode cX4_destageAll 1 = .ok (.invokevirtual 59, 3) := by decide +kernel
theorem dX4_destageAll_4 : decode cX4_destageAll 4 = .ok (.aload_n 0, 1) := by decide +kernel
theorem dX4_destageAll_5 : decode cX4_destageAll 5 = .ok (.getfield 19, 3) := by decide +kernel
theorem dX4_destageAll_8 : decode cX4_destageAll 8 = .ok (.aload_n 0, 1) := by decide +kernel
theorem dX4_destageAll_9 : decode cX4_destageAll 9 = .ok (.getfield 10, 3) := by decide +kernel
theorem dX4_destageAll_12 : decode cX4_destageAll 12 = .ok (.invokevirtual 44, 3) := by decide +kernel
theorem dX4_destageAll_15 : decode cX4_destageAll 15 = .ok (.aload_n 0, 1) := by decide +kernel
theorem dX4_destageAll_16 : decode cX4_destageAll 16 = .ok (.getfield 10, 3) := by decide +kernel
theorem dX4_destageAll_19 : decode cX4_destageAll 19 = .ok (.invokevirtual 65, 3) := by decide +kernel
theorem dX4_destageAll_22 : decode cX4_destageAll 22 = .ok (.ireturn, 1) := by decide +kernel
set_option maxRecDepth 20000 in
theorem ggX4_pass_X0_save : GoodIn wsX4_pass wsX0_save := goodIn_r _ [11, 12, 13, 14, 15, 16, 17, 18, 19, 20, 21, 22, 23, 24, 25, 26, 27, 28, 29, 30, 31, 32, 33, 34, 35, 36, 37, 38, 39, 40, 41, 42, 43, 44, 45, 46, 47, 48, 49, 50, 51, 52, 53, 105, 106, 107, 89, 90, 91, 92, 93, 94, 95, 96, 97, 98, 99, 100, 101, 102, 103, 104] (by decide +kernel) (by decide +kernel)
set_option maxRecDepth 20000 in
theorem gX4_pass_X0_save : GoodIn wsX4_pass (wsV RX4 44 RX0 yX0_save wsX0_save) := goodIn_app (goodIn_of _ (by decide +kernel)) ggX4_pass_X0_save
set_option maxRecDepth 20000 in
theorem ggX4_pass_X1_letPass : GoodIn wsX4_pass wsX1_letPass := goodIn_r _ [57, 28, 36, 58, 59, 60, 26, 61, 38, 62, 63, 64, 65, 42, 66, 52, 51, 67, 16, 17, 18, 68, 69, 70, 71, 72, 73, 74, 75, 76, 77, 78, 49, 79, 80, 81, 82, 44, 83, 84, 85, 89, 90, 91, 92, 93, 94, 95, 96, 97, 98, 99, 100, 101, 102, 103, 104] (by decide +kernel) (by decide +kernel)
set_option maxRecDepth 20000 in
theorem gX4_pass_X1_letPass : GoodIn wsX4_pass (wsV RX4 71 RX1 yX1_letPass wsX1_letPass) := goodIn_app (goodIn_of _ (by decide +kernel)) ggX4_pass_X1_letPass
theorem dX4_pass_0 : decode cX4_pass 0 = .ok (.iload_n 1, 1) := by decide +kernel
theorem dX4_pass_1 : decode cX4_pass 1 = .ok (.iconst 1, 1) := by decide +kernel
theorem dX4_pass_2 : decode cX4_pass 2 = .ok (.if_icmp .lt 9, 3) := by decide +kernel
theorem dX4_pass_5 : decode cX4_pass 5 = .ok (.iload_n 1, 1) := by decide +kernel
theorem dX4_pass_6 : decode cX4_pass 6 = .ok (.bipush 99, 2) := by decide +kernel
theorem dX4_pass_8 : decode cX4_pass 8 = .ok (.if_icmp .le 13, 3) := by decide +kernel
theorem dX4_pass_11 : decode cX4_pass 11 = .ok (.new 34, 3) := by decide +kernel
theorem dX4_pass_14 : decode cX4_pass 14 = .ok (.dup, 1) := by decide +kernel
theorem dX4_pass_15 : decode cX4_pass 15 = .ok (.ldc 69, 2) := by decide +kernel
theorem dX4_pass_17 : decode cX4_pass 17 = .ok (.invokespecial 38, 3) := by decide +kernel
theorem dX4_pass_20 : decode cX4_pass 20 = .ok (.athrow, 1) := by decide +kernel
theorem dX4_pass_21 : decode cX4_pass 21 = .ok (.aload_n 0, 1) := by decide +kernel
theorem dX4_pass_22 : decode cX4_pass 22 = .ok (.getfield 19, 3) := by decide +kernel
theorem dX4_pass_25 : decode cX4_pass 25 = .ok (.aload_n 0, 1) := by decide +kernel
theorem dX4_pass_26 : decode cX4_pass 26 = .ok (.getfield 10, 3) := by decide +kernel
theorem dX4_pass_29 : decode cX4_pass 29 = .ok (.invokevirtual 44, 3) := by decide +kernel
theorem dX4_pass_32 : decode cX4_pass 32 = .ok (.aload_n 0, 1) := by decide +kernel
theorem dX4_pass_33 : decode cX4_pass 33 = .ok (.getfield 10, 3) := by decide +kernel
theorem dX4_pass_36 : decode cX4_pass 36 = .ok (.iload_n 1, 1) := by decide +kernel
theorem dX4_pass_37 : decode cX4_pass 37 = .ok (.invokevirtual 71, 3) := by decide +kernel
theorem dX4_pass_40 : decode cX4_pass 40 = .ok (.aload_n 0, 1) := by decide +kernel
theorem dX4_pass_41 : decode cX4_pass 41 = .ok (.getfield 10, 3) := by decide +kernel
theorem dX4_pass_44 : decode cX4_pass 44 = .ok (.getfield 74, 3) := by decide +kernel
theorem dX4_pass_47 : decode cX4_pass 47 = .ok (.getfield 78, 3) := by decide +kernel
theorem dX4_pass_50 : decode cX4_pass 50 = .ok (.ireturn, 1) := by decide +kernel
set_option maxRecDepth 20000 in
theorem ggX4_setLimit_X0_save : GoodIn wsX4_setLimit wsX0_save := goodIn_r _ [11, 12, 13, 14, 15, 16, 17, 18, 19, 20, 21, 22, 23, 24, 25, 26, 27, 28, 29, 30, 31, 32, 33, 34, 35, 36, 37, 38, 39, 40, 41, 42, 43, 44, 45, 46, 47, 48, 49, 50, 51, 52, 53, 78, 79, 80, 62, 63, 64, 65, 66, 67, 68, 69, 70, 71, 72, 73, 74, 75, 76, 77] (by decide +kernel) (by decide +kernel)
set_option maxRecDepth 20000 in
theorem gX4_setLimit_X0_save : GoodIn wsX4_setLimit (wsV RX4 44 RX0 yX0_save wsX0_save) := goodIn_app (goodIn_of _ (by decide +kernel)) ggX4_setLimit_X0_save
set_option maxRecDepth 20000 in
theorem ggX4_setLimit_X2_limitTo : GoodIn wsX4_setLimit wsX2_limitTo := goodIn_r _ [57, 51, 52, 58, 16, 17, 18, 69, 70, 71, 72, 73, 74, 75, 76, 77] (by decide +kernel) (by decide +kernel)
set_option maxRecDepth 20000 in
theorem gX4_setLimit_X2_limitTo : GoodIn wsX4_setLimit (wsV RX4 86 RX2 yX2_limitTo wsX2_limitTo) := goodIn_app (goodIn_of _ (by decide +kernel)) ggX4_setLimit_X2_limitTo
theorem dX4_setLimit_0 : decode cX4_setLimit 0 = .ok (.iload_n 1, 1) := by decide +kernel
theorem dX4_setLimit_1 : decode cX4_setLimit 1 = .ok (.iconst 1, 1) := by decide +kernel
theorem dX4_setLimit_2 : decode cX4_setLimit 2 = .ok (.if_icmp .lt 9, 3) := by decide +kernel
theorem dX4_setLimit_5 : decode cX4_setLimit 5 = .ok (.iload_n 1, 1) := by decide +kernel
theorem dX4_setLimit_6 : decode cX4_setLimit 6 = .ok (.bipush 100, 2) := by decide +kernel
theorem dX4_setLimit_8 : decode cX4_setLimit 8 = .ok (.if_icmp .le 13, 3) := by decide +kernel
theorem dX4_setLimit_11 : decode cX4_setLimit 11 = .ok (.new 34, 3) := by decide +kernel
theorem dX4_setLimit_14 : decode cX4_setLimit 14 = .ok (.dup, 1) := by decide +kernel
theorem dX4_setLimit_15 : decode cX4_setLimit 15 = .ok (.ldc 84, 2) := by decide +kernel
theorem dX4_setLimit_17 : decode cX4_setLimit 17 = .ok (.invokespecial 38, 3) := by decide +kernel
theorem dX4_setLimit_20 : decode cX4_setLimit 20 = .ok (.athrow, 1) := by decide +kernel
theorem dX4_setLimit_21 : decode cX4_setLimit 21 = .ok (.aload_n 0, 1) := by decide +kernel
theorem dX4_setLimit_22 : decode cX4_setLimit 22 = .ok (.getfield 19, 3) := by decide +kernel
theorem dX4_setLimit_25 : decode cX4_setLimit 25 = .ok (.aload_n 0, 1) := by decide +kernel
theorem dX4_setLimit_26 : decode cX4_setLimit 26 = .ok (.getfield 10, 3) := by decide +kernel
theorem dX4_setLimit_29 : decode cX4_setLimit 29 = .ok (.invokevirtual 44, 3) := by decide +kernel
theorem dX4_setLimit_32 : decode cX4_setLimit 32 = .ok (.aload_n 0, 1) := by decide +kernel
theorem dX4_setLimit_33 : decode cX4_setLimit 33 = .ok (.getfield 10, 3) := by decide +kernel
theorem dX4_setLimit_36 : decode cX4_setLimit 36 = .ok (.getfield 74, 3) := by decide +kernel
theorem dX4_setLimit_39 : decode cX4_setLimit 39 = .ok (.iload_n 1, 1) := by decide +kernel
theorem dX4_setLimit_40 : decode cX4_setLimit 40 = .ok (.invokevirtual 86, 3) := by decide +kernel
theorem dX4_setLimit_43 : decode cX4_setLimit 43 = .ok (.aload_n 0, 1) := by decide +kernel
theorem dX4_setLimit_44 : decode cX4_setLimit 44 = .ok (.getfield 10, 3) := by decide +kernel
theorem dX4_setLimit_47 : decode cX4_setLimit 47 = .ok (.getfield 74, 3) := by decide +kernel
theorem dX4_setLimit_50 : decode cX4_setLimit 50 = .ok (.getfield 78, 3) := by decide +kernel
theorem dX4_setLimit_53 : decode cX4_setLimit 53 = .ok (.ireturn, 1) := by decide +kernel
set_option maxRecDepth 20000 in
theorem ggX4_power_X0_save : GoodIn wsX4_power wsX0_save := goodIn_r _ [7, 8, 9, 10, 11, 12, 13, 14, 15, 16, 17, 18, 19, 20, 21, 22, 23, 24, 25, 26, 27, 28, 29, 30, 31, 32, 33, 34, 35, 36, 37, 38, 39, 40, 41, 42, 43, 44, 45, 46, 47, 48, 49, 92, 93, 94, 95, 96, 97, 98, 99, 100, 101, 102, 103, 104, 105, 106, 107, 108, 109, 110] (by decide +kernel) (by decide +kernel)
set_option maxRecDepth 20000 in
theorem gX4_power_X0_save : GoodIn wsX4_power (wsV RX4 44 RX0 yX0_save wsX0_save) := goodIn_app (goodIn_of _ (by decide +kernel)) ggX4_power_X0_save
set_option maxRecDepth 20000 in
theorem ggX4_power_X1_switchPower : GoodIn wsX4_power wsX1_switchPower := goodIn_r _ [53, 34, 24, 54, 55, 56, 57, 58, 22, 59, 60, 61, 62, 63, 64, 65, 66, 67, 32, 68, 69, 70, 38, 71, 45, 40, 72, 73, 74, 75, 76, 77, 78, 25, 30, 79, 80, 81, 82, 83, 84, 85, 86, 87, 88, 95, 96, 97, 98, 99, 100, 101, 102, 103, 104, 105, 106, 107, 108, 109, 110] (by decide +kernel) (by decide +kernel)
set_option maxRecDepth 20000 in
theorem gX4_power_X1_switchPower : GoodIn wsX4_power (wsV RX4 89 RX1 yX1_switchPower wsX1_switchPower) := goodIn_app (goodIn_of _ (by decide +kernel)) ggX4_power_X1_switchPower
theorem dX4_power_0 : decode cX4_power 0 = .ok (.aload_n 0, 1) := by decide +kernel
theorem dX4_power_1 : decode cX4_power 1 = .ok (.getfield 19, 3) := by decide +kernel
theorem dX4_power_4 : decode cX4_power 4 = .ok (.aload_n 0, 1) := by decide +kernel
theorem dX4_power_5 : decode cX4_power 5 = .ok (.getfield 10, 3) := by decide +kernel
theorem dX4_power_8 : decode cX4_power 8 = .ok (.invokevirtual 44, 3) := by decide +kernel
theorem dX4_power_11 : decode cX4_power 11 = .ok (.aload_n 0, 1) := by decide +kernel
theorem dX4_power_12 : decode cX4_power 12 = .ok (.getfield 10, 3) := by decide +kernel
theorem dX4_power_15 : decode cX4_power 15 = .ok (.iload_n 1, 1) := by decide +kernel
theorem dX4_power_16 : decode cX4_power 16 = .ok (.invokevirtual 89, 3) := by decide +kernel
theorem dX4_power_19 : decode cX4_power 19 = .ok (.ireturn, 1) := by decide +kernel
set_option maxRecDepth 20000 in
theorem ggX4_moveStick_X0_save : GoodIn wsX4_moveStick wsX0_save := goodIn_r _ [10, 11, 12, 13, 14, 15, 16, 17, 18, 19, 20, 21, 22, 23, 24, 25, 26, 27, 28, 29, 30, 31, 32, 33, 34, 35, 36, 37, 38, 39, 40, 41, 42, 43, 44, 45, 46, 47, 48, 49, 50, 51, 52, 83, 84, 85, 76, 77, 78, 79, 80, 81, 82, 86, 87, 88, 89, 90, 91, 92, 93, 94] (by decide +kernel) (by decide +kernel)
set_option maxRecDepth 20000 in
theorem gX4_moveStick_X0_save : GoodIn wsX4_moveStick (wsV RX4 44 RX0 yX0_save wsX0_save) := goodIn_app (goodIn_of _ (by decide +kernel)) ggX4_moveStick_X0_save
set_option maxRecDepth 20000 in
theorem ggX4_moveStick_X1_placeStick : GoodIn wsX4_moveStick wsX1_placeStick := goodIn_r _ [56, 27, 57, 58, 59, 60, 25, 61, 62, 63, 33, 64, 65, 66, 67, 68, 69, 41, 70, 43, 48, 71, 72, 76, 77, 78, 79, 80, 81, 82, 86, 87, 88, 89, 90, 91, 92, 93, 94] (by decide +kernel) (by decide +kernel)
set_option maxRecDepth 20000 in
theorem gX4_moveStick_X1_placeStick : GoodIn wsX4_moveStick (wsV RX4 102 RX1 yX1_placeStick wsX1_placeStick) := goodIn_app (goodIn_of _ (by decide +kernel)) ggX4_moveStick_X1_placeStick
theorem dX4_moveStick_0 : decode cX4_moveStick 0 = .ok (.aload_n 0, 1) := by decide +kernel
theorem dX4_moveStick_1 : decode cX4_moveStick 1 = .ok (.getfield 10, 3) := by decide +kernel
theorem dX4_moveStick_4 : decode cX4_moveStick 4 = .ok (.getfield 93, 3) := by decide +kernel
theorem dX4_moveStick_7 : decode cX4_moveStick 7 = .ok (.ifCond .eq 13, 3) := by decide +kernel
theorem dX4_moveStick_10 : decode cX4_moveStick 10 = .ok (.new 97, 3) := by decide +kernel
theorem dX4_moveStick_13 : decode cX4_moveStick 13 = .ok (.dup, 1) := by decide +kernel
theorem dX4_moveStick_14 : decode cX4_moveStick 14 = .ok (.ldc 99, 2) := by decide +kernel
theorem dX4_moveStick_16 : decode cX4_moveStick 16 = .ok (.invokespecial 101, 3) := by decide +kernel
theorem dX4_moveStick_19 : decode cX4_moveStick 19 = .ok (.athrow, 1) := by decide +kernel
theorem dX4_moveStick_20 : decode cX4_moveStick 20 = .ok (.aload_n 0, 1) := by decide +kernel
theorem dX4_moveStick_21 : decode cX4_moveStick 21 = .ok (.getfield 19, 3) := by decide +kernel
theorem dX4_moveStick_24 : decode cX4_moveStick 24 = .ok (.aload_n 0, 1) := by decide +kernel
theorem dX4_moveStick_25 : decode cX4_moveStick 25 = .ok (.getfield 10, 3) := by decide +kernel
theorem dX4_moveStick_28 : decode cX4_moveStick 28 = .ok (.invokevirtual 44, 3) := by decide +kernel
theorem dX4_moveStick_31 : decode cX4_moveStick 31 = .ok (.aload_n 0, 1) := by decide +kernel
theorem dX4_moveStick_32 : decode cX4_moveStick 32 = .ok (.getfield 10, 3) := by decide +kernel
theorem dX4_moveStick_35 : decode cX4_moveStick 35 = .ok (.iload_n 1, 1) := by decide +kernel
theorem dX4_moveStick_36 : decode cX4_moveStick 36 = .ok (.invokevirtual 102, 3) := by decide +kernel
theorem dX4_moveStick_39 : decode cX4_moveStick 39 = .ok (.ireturn, 1) := by decide +kernel
set_option maxRecDepth 20000 in
theorem ggX4_appendText_X3_append : GoodIn wsX4_appendText wsX3_append := goodIn_r _ [11, 12, 13, 17, 18, 19, 20, 21, 22] (by decide +kernel) (by decide +kernel)
set_option maxRecDepth 20000 in
theorem gX4_appendText_X3_append : GoodIn wsX4_appendText (wsV RX4 112 RX3 yX3_append wsX3_append) := goodIn_app (goodIn_of _ (by decide +kernel)) ggX4_appendText_X3_append
theorem dX4_appendText_0 : decode cX4_appendText 0 = .ok (.iload_n 1, 1) := by decide +kernel
theorem dX4_appendText_1 : decode cX4_appendText 1 = .ok (.bipush 32, 2) := by decide +kernel
theorem dX4_appendText_3 : decode cX4_appendText 3 = .ok (.if_icmp .lt 9, 3) := by decide +kernel
theorem dX4_appendText_6 : decode cX4_appendText 6 = .ok (.iload_n 1, 1) := by decide +kernel
theorem dX4_appendText_7 : decode cX4_appendText 7 = .ok (.bipush 126, 2) := by decide +kernel
theorem dX4_appendText_9 : decode cX4_appendText 9 = .ok (.if_icmp .le 13, 3) := by decide +kernel
theorem dX4_appendText_12 : decode cX4_appendText 12 = .ok (.new 34, 3) := by decide +kernel
theorem dX4_appendText_15 : decode cX4_appendText 15 = .ok (.dup, 1) := by decide +kernel
theorem dX4_appendText_16 : decode cX4_appendText 16 = .ok (.ldc 105, 2) := by decide +kernel
theorem dX4_appendText_18 : decode cX4_appendText 18 = .ok (.invokespecial 38, 3) := by decide +kernel
theorem dX4_appendText_21 : decode cX4_appendText 21 = .ok (.athrow, 1) := by decide +kernel
theorem dX4_appendText_22 : decode cX4_appendText 22 = .ok (.aload_n 0, 1) := by decide +kernel
theorem dX4_appendText_23 : decode cX4_appendText 23 = .ok (.getfield 26, 3) := by decide +kernel
theorem dX4_appendText_26 : decode cX4_appendText 26 = .ok (.getfield 107, 3) := by decide +kernel
theorem dX4_appendText_29 : decode cX4_appendText 29 = .ok (.bipush 80, 2) := by decide +kernel
theorem dX4_appendText_31 : decode cX4_appendText 31 = .ok (.if_icmp .lt 13, 3) := by decide +kernel
theorem dX4_appendText_34 : decode cX4_appendText 34 = .ok (.new 97, 3) := by decide +kernel
theorem dX4_appendText_37 : decode cX4_appendText 37 = .ok (.dup, 1) := by decide +kernel
theorem dX4_appendText_38 : decode cX4_appendText 38 = .ok (.ldc 110, 2) := by decide +kernel
theorem dX4_appendText_40 : decode cX4_appendText 40 = .ok (.invokespecial 101, 3) := by decide +kernel
theorem dX4_appendText_43 : decode cX4_appendText 43 = .ok (.athrow, 1) := by decide +kernel
theorem dX4_appendText_44 : decode cX4_appendText 44 = .ok (.aload_n 0, 1) := by decide +kernel
theorem dX4_appendText_45 : decode cX4_appendText 45 = .ok (.getfield 26, 3) := by decide +kernel
theorem dX4_appendText_48 : decode cX4_appendText 48 = .ok (.iload_n 1, 1) := by decide +kernel
theorem dX4_appendText_49 : decode cX4_appendText 49 = .ok (.i2c, 1) := by decide +kernel
theorem dX4_appendText_50 : decode cX4_appendText 50 = .ok (.invokevirtual 112, 3) := by decide +kernel
theorem dX4_appendText_53 : decode cX4_appendText 53 = .ok (.aload_n 0, 1) := by decide +kernel
theorem dX4_appendText_54 : decode cX4_appendText 54 = .ok (.getfield 26, 3) := by decide +kernel
theorem dX4_appendText_57 : decode cX4_appendText 57 = .ok (.getfield 107, 3) := by decide +kernel
theorem dX4_appendText_60 : decode cX4_appendText 60 = .ok (.ireturn, 1) := by decide +kernel
theorem dX4_clearText_0 : decode cX4_clearText 0 = .ok (.aload_n 0, 1) := by decide +kernel
theorem dX4_clearText_1 : decode cX4_clearText 1 = .ok (.getfield 26, 3) := by decide +kernel
theorem dX4_clearText_4 : decode cX4_clearText 4 = .ok (.getfield 107, 3) := by decide +kernel
theorem dX4_clearText_7 : decode cX4_clearText 7 = .ok (.istore_n 1, 1) := by decide +kernel
theorem dX4_clearText_8 : decode cX4_clearText 8 = .ok (.aload_n 0, 1) := by decide +kernel
theorem dX4_clearText_9 : decode cX4_clearText 9 = .ok (.getfield 26, 3) := by decide +kernel
theorem dX4_clearText_12 : decode cX4_clearText 12 = .ok (.iconst 0, 1) := by decide +kernel
theorem dX4_clearText_13 : decode cX4_clearText 13 = .ok (.putfield 107, 3) := by decide +kernel
theorem dX4_clearText_16 : decode cX4_clearText 16 = .ok (.iload_n 1, 1) := by decide +kernel
theorem dX4_clearText_17 : decode cX4_clearText 17 = .ok (.ireturn, 1) := by decide +kernel
set_option maxRecDepth 20000 in
theorem ggX4_errorPosition_X3_firstError : GoodIn wsX4_errorPosition wsX3_firstError := goodIn_r _ [6, 7, 8, 9, 10, 11, 5, 12, 13, 14, 15, 16, 17, 18, 19, 20, 21, 22, 23, 24, 25, 26, 27, 28, 29, 30, 31, 32, 33, 34, 35, 36, 37, 38, 39, 40, 41, 42, 43, 44, 45, 46, 47, 48, 49, 50, 51, 52, 53, 54, 55, 56, 57, 58, 59, 60, 61, 62, 63, 64, 65, 66, 67, 68, 69, 70, 71, 72, 73, 74, 75, 76, 77, 78, 79, 80, 81, 82, 83, 84, 85, 86, 87, 88, 89, 90, 91, 92, 93, 94, 95, 96, 97, 98, 99, 100, 101, 102, 103, 104, 105, 106, 107, 108, 109, 110, 111, 112, 113, 114, 115, 116, 117, 118, 119, 120, 121, 122, 126, 127, 128, 129, 130, 131] (by decide +kernel) (by decide +kernel)
set_option maxRecDepth 20000 in
theorem gX4_errorPosition_X3_firstError : GoodIn wsX4_errorPosition (wsV RX4 116 RX3 yX3_firstError wsX3_firstError) := goodIn_app (goodIn_of _ (by decide +kernel)) ggX4_errorPosition_X3_firstError
theorem dX4_errorPosition_0 : decode cX4_errorPosition 0 = .ok (.aload_n 0, 1) := by decide +kernel
theorem dX4_errorPosition_1 : decode cX4_errorPosition 1 = .ok (.getfield 26, 3) := by decide +kernel
theorem dX4_errorPosition_4 : decode cX4_errorPosition 4 = .ok (.invokevirtual 116, 3) := by decide +kernel
theorem dX4_errorPosition_7 : decode cX4_errorPosition 7 = .ok (.ireturn, 1) := by decide +kernel
set_option maxRecDepth 20000 in
theorem ggX4_runText_X3_firstError : GoodIn wsX4_runText wsX3_firstError := goodIn_r _ [10, 11, 12, 13, 14, 15, 9, 16, 17, 18, 19, 20, 21, 22, 23, 24, 25, 26, 27, 28, 29, 30, 31, 32, 33, 34, 35, 36, 37, 38, 39, 40, 41, 42, 43, 44, 45, 46, 47, 48, 49, 50, 51, 52, 53, 54, 55, 56, 57, 58, 59, 60, 61, 62, 63, 64, 65, 66, 67, 68, 69, 70, 71, 72, 73, 74, 75, 76, 77, 78, 79, 80, 81, 82, 83, 84, 85, 86, 87, 88, 89, 90, 91, 92, 93, 94, 95, 96, 97, 98, 99, 100, 101, 102, 103, 104, 105, 106, 107, 108, 109, 110, 111, 112, 113, 114, 115, 116, 117, 118, 119, 120, 121, 122, 123, 124, 125, 126, 320, 321, 322, 323, 324, 325] (by decide +kernel) (by decide +kernel)
set_option maxRecDepth 20000 in
theorem gX4_runText_X3_firstError : GoodIn wsX4_runText (wsV RX4 116 RX3 yX3_firstError wsX3_firstError) := goodIn_app (goodIn_of _ (by decide +kernel)) ggX4_runText_X3_firstError
set_option maxRecDepth 20000 in
theorem ggX4_runText_X0_save : GoodIn wsX4_runText wsX0_save := goodIn_r _ [131, 132, 133, 134, 135, 62, 59, 63, 136, 137, 138, 139, 140, 141, 142, 143, 144, 145, 146, 147, 148, 149, 150, 151, 152, 153, 154, 155, 156, 157, 158, 159, 160, 161, 162, 163, 164, 165, 166, 167, 168, 169, 170, 326, 327, 328, 329, 330, 331, 332, 333, 334, 335, 336, 337, 338, 339, 340, 341, 342, 343, 344] (by decide +kernel) (by decide +kernel)
set_option maxRecDepth 20000 in
theorem gX4_runText_X0_save : GoodIn wsX4_runText (wsV RX4 44 RX0 yX0_save wsX0_save) := goodIn_app (goodIn_of _ (by decide +kernel)) ggX4_runText_X0_save
set_option maxRecDepth 20000 in
theorem ggX4_runText_X3_rewind : GoodIn wsX4_runText wsX3_rewind := goodIn_r _ [16, 11, 320, 321, 322, 323, 324, 325] (by decide +kernel) (by decide +kernel)
set_option maxRecDepth 20000 in
theorem gX4_runText_X3_rewind : GoodIn wsX4_runText (wsV RX4 121 RX3 yX3_rewind wsX3_rewind) := goodIn_app (goodIn_of _ (by decide +kernel)) ggX4_runText_X3_rewind
set_option maxRecDepth 20000 in
theorem ggX4_runText_X3_takeCommand : GoodIn wsX4_runText wsX3_takeCommand := goodIn_r _ [20, 21, 11, 22, 23, 24, 25, 26, 9, 27, 12, 28, 29, 30, 31, 32, 33, 34, 35, 36, 37, 38, 39, 40, 41, 42, 43, 44, 45, 46, 47, 48, 49, 50, 51, 52, 53, 54, 55, 56, 57, 58, 59, 60, 61, 62, 63, 64, 65, 66, 67, 68, 69, 70, 71, 72, 73, 74, 75, 76, 77, 78, 79, 80, 81, 82, 83, 84, 85, 86, 87, 88, 89, 90, 91, 92, 93, 94, 95, 96, 97, 98, 99, 100, 101, 102, 103, 104, 105, 106, 107, 108, 109, 110, 111, 112, 113, 114, 115, 116, 117, 118, 119, 120, 121, 122, 123, 124, 125, 126, 320, 321, 322, 323, 324, 325] (by decide +kernel) (by decide +kernel)
set_option maxRecDepth 20000 in
theorem gX4_runText_X3_takeCommand : GoodIn wsX4_runText (wsV RX4 124 RX3 yX3_takeCommand wsX3_takeCommand) := goodIn_app (goodIn_of _ (by decide +kernel)) ggX4_runText_X3_takeCommand
set_option maxRecDepth 20000 in
theorem ggX4_runText_X4_execute : GoodIn wsX4_runText wsX4_execute := goodIn_r _ [177, 3, 178, 5, 179, 180, 181, 182, 183, 184, 185, 186, 143, 187, 153, 154, 152, 188, 176, 189, 190, 191, 192, 193, 145, 194, 195, 196, 197, 198, 199, 200, 201, 202, 203, 204, 159, 205, 161, 206, 207, 208, 209, 210, 211, 166, 165, 212, 213, 214, 215, 216, 217, 218, 219, 220, 221, 222, 223, 224, 225, 226, 227, 228, 229, 230, 231, 232, 233, 234, 235, 236, 146, 151, 237, 238, 239, 240, 241, 242, 243, 244, 245, 246, 247, 248, 163, 164, 249, 250, 251, 252, 167, 253, 254, 255, 256, 257, 258, 259, 260, 170, 261, 262, 263, 264, 265, 266, 267, 268, 269, 270, 271, 272, 273, 274, 155, 275, 276, 277, 278, 279, 280, 281, 282, 283, 284, 169, 168, 285, 62, 59, 63, 286, 287, 288, 289, 290, 58, 60, 291, 292, 293, 294, 295, 296, 297, 298, 299, 300, 301, 302, 303, 304, 305, 306, 307, 308, 309, 310, 311, 312, 313, 314, 315, 317, 318, 319, 320, 321, 322, 323, 324, 325, 329, 330, 331, 332, 333, 334, 335, 336, 337, 338, 339, 340, 341, 342, 343, 344] (by decide +kernel) (by decide +kernel)
set_option maxRecDepth 20000 in
theorem gX4_runText_X4_execute : GoodIn wsX4_runText (wsV RX4 128 RX4 yX4_execute wsX4_execute) := goodIn_app (goodIn_of _ (by decide +kernel)) ggX4_runText_X4_execute
set_option maxRecDepth 20000 in
theorem ggX4_runText_X3_takeSign : GoodIn wsX4_runText wsX3_takeSign := goodIn_r _ [126, 11, 24, 25, 26, 9, 27, 12, 28, 320, 321, 322, 323, 324, 325] (by decide +kernel) (by decide +kernel)
set_option maxRecDepth 20000 in
theorem gX4_runText_X3_takeSign : GoodIn wsX4_runText (wsV RX4 131 RX3 yX3_takeSign wsX3_takeSign) := goodIn_app (goodIn_of _ (by decide +kernel)) ggX4_runText_X3_takeSign
theorem dX4_runText_0 : decode cX4_runText 0 = .ok (.aload_n 0, 1) := by decide +kernel
theorem dX4_runText_1 : decode cX4_runText 1 = .ok (.getfield 26, 3) := by decide +kernel
theorem dX4_runText_4 : decode cX4_runText 4 = .ok (.invokevirtual 116, 3) := by decide +kernel
theorem dX4_runText_7 : decode cX4_runText 7 = .ok (.iconst (-1), 1) := by decide +kernel
theorem dX4_runText_8 : decode cX4_runText 8 = .ok (.if_icmp .eq 13, 3) := by decide +kernel
theorem dX4_runText_11 : decode cX4_runText 11 = .ok (.new 97, 3) := by decide +kernel
theorem dX4_runText_14 : decode cX4_runText 14 = .ok (.dup, 1) := by decide +kernel
theorem dX4_runText_15 : decode cX4_runText 15 = .ok (.ldc 119, 2) := by decide +kernel
theorem dX4_runText_17 : decode cX4_runText 17 = .ok (.invokespecial 101, 3) := by decide +kernel
theorem dX4_runText_20 : decode cX4_runText 20 = .ok (.athrow, 1) := by decide +kernel
theorem dX4_runText_21 : decode cX4_runText 21 = .ok (.aload_n 0, 1) := by decide +kernel
theorem dX4_runText_22 : decode cX4_runText 22 = .ok (.getfield 19, 3) := by decide +kernel
theorem dX4_runText_25 : decode cX4_runText 25 = .ok (.aload_n 0, 1) := by decide +kernel
theorem dX4_runText_26 : decode cX4_runText 26 = .ok (.getfield 10, 3) := by decide +kernel
theorem dX4_runText_29 : decode cX4_runText 29 = .ok (.invokevirtual 44, 3) := by decide +kernel
theorem dX4_runText_32 : decode cX4_runText 32 = .ok (.aload_n 0, 1) := by decide +kernel
theorem dX4_runText_33 : decode cX4_runText 33 = .ok (.getfield 26, 3) := by decide +kernel
theorem dX4_runText_36 : decode cX4_runText 36 = .ok (.invokevirtual 121, 3) := by decide +kernel
theorem dX4_runText_39 : decode cX4_runText 39 = .ok (.iconst 0, 1) := by decide +kernel
theorem dX4_runText_40 : decode cX4_runText 40 = .ok (.istore_n 1, 1) := by decide +kernel
theorem dX4_runText_41 : decode cX4_runText 41 = .ok (.iload_n 1, 1) := by decide +kernel
theorem dX4_runText_42 : decode cX4_runText 42 = .ok (.bipush 80, 2) := by decide +kernel
theorem dX4_runText_44 : decode cX4_runText 44 = .ok (.if_icmp .ge 36, 3) := by decide +kernel
theorem dX4_runText_47 : decode cX4_runText 47 = .ok (.aload_n 0, 1) := by decide +kernel
theorem dX4_runText_48 : decode cX4_runText 48 = .ok (.getfield 26, 3) := by decide +kernel
theorem dX4_runText_51 : decode cX4_runText 51 = .ok (.invokevirtual 124, 3) := by decide +kernel
theorem dX4_runText_54 : decode cX4_runText 54 = .ok (.ifCond .eq 26, 3) := by decide +kernel
theorem dX4_runText_57 : decode cX4_runText 57 = .ok (.aload_n 0, 1) := by decide +kernel
theorem dX4_runText_58 : decode cX4_runText 58 = .ok (.invokevirtual 128, 3) := by decide +kernel
theorem dX4_runText_61 : decode cX4_runText 61 = .ok (.ifCond .eq 19, 3) := by decide +kernel
theorem dX4_runText_64 : decode cX4_runText 64 = .ok (.iinc 1 1, 3) := by decide +kernel
theorem dX4_runText_67 : decode cX4_runText 67 = .ok (.aload_n 0, 1) := by decide +kernel
theorem dX4_runText_68 : decode cX4_runText 68 = .ok (.getfield 26, 3) := by decide +kernel
theorem dX4_runText_71 : decode cX4_runText 71 = .ok (.bipush 59, 2) := by decide +kernel
theorem dX4_runText_73 : decode cX4_runText 73 = .ok (.invokevirtual 131, 3) := by decide +kernel
theorem dX4_runText_76 : decode cX4_runText 76 = .ok (.pop, 1) := by decide +kernel
theorem dX4_runText_77 : decode cX4_runText 77 = .ok (.goto (-36), 3) := by decide +kernel
theorem dX4_runText_80 : decode cX4_runText 80 = .ok (.iload_n 1, 1) := by decide +kernel
theorem dX4_runText_81 : decode cX4_runText 81 = .ok (.ireturn, 1) := by decide +kernel
set_option maxRecDepth 20000 in
theorem ggX4_undo_X0_restore : GoodIn wsX4_undo wsX0_restore := goodIn_r _ [10, 11, 12, 13, 14, 15, 16, 17, 18, 19, 20, 21, 22, 23, 24, 25, 26, 27, 28, 29, 30, 31, 32, 33, 34, 35, 36, 37, 38, 39, 40, 41, 42, 43, 44, 45, 46, 47, 48, 49, 50, 51, 52, 56, 57, 58, 59, 60, 61, 62, 63, 64, 65, 66, 67, 68, 69, 70, 71, 72, 73, 74] (by decide +kernel) (by decide +kernel)
set_option maxRecDepth 20000 in
theorem gX4_undo_X0_restore : GoodIn wsX4_undo (wsV RX4 140 RX0 yX0_restore wsX0_restore) := goodIn_app (goodIn_of _ (by decide +kernel)) ggX4_undo_X0_restore
theorem dX4_undo_0 : decode cX4_undo 0 = .ok (.aload_n 0, 1) := by decide +kernel
theorem dX4_undo_1 : decode cX4_undo 1 = .ok (.getfield 19, 3) := by decide +kernel
theorem dX4_undo_4 : decode cX4_undo 4 = .ok (.getfield 135, 3) := by decide +kernel
theorem dX4_undo_7 : decode cX4_undo 7 = .ok (.ifCond .ne 13, 3) := by decide +kernel
theorem dX4_undo_10 : decode cX4_undo 10 = .ok (.new 97, 3) := by decide +kernel
theorem dX4_undo_13 : decode cX4_undo 13 = .ok (.dup, 1) := by decide +kernel
theorem dX4_undo_14 : decode cX4_undo 14 = .ok (.ldc 138, 2) := by decide +kernel
theorem dX4_undo_16 : decode cX4_undo 16 = .ok (.invokespecial 101, 3) := by decide +kernel
theorem dX4_undo_19 : decode cX4_undo 19 = .ok (.athrow, 1) := by decide +kernel
theorem dX4_undo_20 : decode cX4_undo 20 = .ok (.aload_n 0, 1) := by decide +kernel
theorem dX4_undo_21 : decode cX4_undo 21 = .ok (.getfield 19, 3) := by decide +kernel
theorem dX4_undo_24 : decode cX4_undo 24 = .ok (.aload_n 0, 1) := by decide +kernel
theorem dX4_undo_25 : decode cX4_undo 25 = .ok (.getfield 10, 3) := by decide +kernel
theorem dX4_undo_28 : decode cX4_undo 28 = .ok (.invokevirtual 140, 3) := by decide +kernel
theorem dX4_undo_31 : decode cX4_undo 31 = .ok (.aload_n 0, 1) := by decide +kernel
theorem dX4_undo_32 : decode cX4_undo 32 = .ok (.getfield 19, 3) := by decide +kernel
theorem dX4_undo_35 : decode cX4_undo 35 = .ok (.getfield 135, 3) := by decide +kernel
theorem dX4_undo_38 : decode cX4_undo 38 = .ok (.ireturn, 1) := by decide +kernel
theorem dX4_isOn_0 : decode cX4_isOn 0 = .ok (.aload_n 0, 1) := by decide +kernel
theorem dX4_isOn_1 : decode cX4_isOn 1 = .ok (.getfield 10, 3) := by decide +kernel
theorem dX4_isOn_4 : decode cX4_isOn 4 = .ok (.getfield 93, 3) := by decide +kernel
theorem dX4_isOn_7 : decode cX4_isOn 7 = .ok (.ireturn, 1) := by decide +kernel
theorem dX4_isIn_0 : decode cX4_isIn 0 = .ok (.aload_n 0, 1) := by decide +kernel
theorem dX4_isIn_1 : decode cX4_isIn 1 = .ok (.getfield 10, 3) := by decide +kernel
theorem dX4_isIn_4 : decode cX4_isIn 4 = .ok (.getfield 74, 3) := by decide +kernel
theorem dX4_isIn_7 : decode cX4_isIn 7 = .ok (.getfield 143, 3) := by decide +kernel
theorem dX4_isIn_10 : decode cX4_isIn 10 = .ok (.ireturn, 1) := by decide +kernel
theorem dX4_charge_0 : decode cX4_charge 0 = .ok (.aload_n 0, 1) := by decide +kernel
theorem dX4_charge_1 : decode cX4_charge 1 = .ok (.getfield 10, 3) := by decide +kernel
theorem dX4_charge_4 : decode cX4_charge 4 = .ok (.getfield 74, 3) := by decide +kernel
theorem dX4_charge_7 : decode cX4_charge 7 = .ok (.getfield 78, 3) := by decide +kernel
theorem dX4_charge_10 : decode cX4_charge 10 = .ok (.ireturn, 1) := by decide +kernel
set_option maxRecDepth 20000 in
theorem ggX4_line_X2_partOf : GoodIn wsX4_line wsX2_partOf := goodIn_r _ [11, 12, 13, 14, 15, 16, 17, 18, 19, 30, 31, 32, 33, 34, 35, 36, 37, 38] (by decide +kernel) (by decide +kernel)
set_option maxRecDepth 20000 in
theorem gX4_line_X2_partOf : GoodIn wsX4_line (wsV RX4 153 RX2 yX2_partOf wsX2_partOf) := goodIn_app (goodIn_of _ (by decide +kernel)) ggX4_line_X2_partOf
theorem dX4_line_0 : decode cX4_line 0 = .ok (.iload_n 1, 1) := by decide +kernel
theorem dX4_line_1 : decode cX4_line 1 = .ok (.ifCond .lt 17, 3) := by decide +kernel
theorem dX4_line_4 : decode cX4_line 4 = .ok (.iload_n 1, 1) := by decide +kernel
theorem dX4_line_5 : decode cX4_line 5 = .ok (.iconst 4, 1) := by decide +kernel
theorem dX4_line_6 : decode cX4_line 6 = .ok (.if_icmp .ge 12, 3) := by decide +kernel
theorem dX4_line_9 : decode cX4_line 9 = .ok (.iload_n 2, 1) := by decide +kernel
theorem dX4_line_10 : decode cX4_line 10 = .ok (.ifCond .lt 8, 3) := by decide +kernel
theorem dX4_line_13 : decode cX4_line 13 = .ok (.iload_n 2, 1) := by decide +kernel
theorem dX4_line_14 : decode cX4_line 14 = .ok (.iconst 3, 1) := by decide +kernel
theorem dX4_line_15 : decode cX4_line 15 = .ok (.if_icmp .lt 13, 3) := by decide +kernel
theorem dX4_line_18 : decode cX4_line 18 = .ok (.new 146, 3) := by decide +kernel
theorem dX4_line_21 : decode cX4_line 21 = .ok (.dup, 1) := by decide +kernel
theorem dX4_line_22 : decode cX4_line 22 = .ok (.ldc 148, 2) := by decide +kernel
theorem dX4_line_24 : decode cX4_line 24 = .ok (.invokespecial 150, 3) := by decide +kernel
theorem dX4_line_27 : decode cX4_line 27 = .ok (.athrow, 1) := by decide +kernel
theorem dX4_line_28 : decode cX4_line 28 = .ok (.iload_n 3, 1) := by decide +kernel
theorem dX4_line_29 : decode cX4_line 29 = .ok (.ifCond .lt 8, 3) := by decide +kernel
theorem dX4_line_32 : decode cX4_line 32 = .ok (.iload_n 3, 1) := by decide +kernel
theorem dX4_line_33 : decode cX4_line 33 = .ok (.iconst 4, 1) := by decide +kernel
theorem dX4_line_34 : decode cX4_line 34 = .ok (.if_icmp .le 13, 3) := by decide +kernel
theorem dX4_line_37 : decode cX4_line 37 = .ok (.new 34, 3) := by decide +kernel
theorem dX4_line_40 : decode cX4_line 40 = .ok (.dup, 1) := by decide +kernel
theorem dX4_line_41 : decode cX4_line 41 = .ok (.ldc 151, 2) := by decide +kernel
theorem dX4_line_43 : decode cX4_line 43 = .ok (.invokespecial 38, 3) := by decide +kernel
theorem dX4_line_46 : decode cX4_line 46 = .ok (.athrow, 1) := by decide +kernel
theorem dX4_line_47 : decode cX4_line 47 = .ok (.aload_n 0, 1) := by decide +kernel
theorem dX4_line_48 : decode cX4_line 48 = .ok (.getfield 10, 3) := by decide +kernel
theorem dX4_line_51 : decode cX4_line 51 = .ok (.getfield 74, 3) := by decide +kernel
theorem dX4_line_54 : decode cX4_line 54 = .ok (.iload_n 1, 1) := by decide +kernel
theorem dX4_line_55 : decode cX4_line 55 = .ok (.iconst 3, 1) := by decide +kernel
theorem dX4_line_56 : decode cX4_line 56 = .ok (.imul, 1) := by decide +kernel
theorem dX4_line_57 : decode cX4_line 57 = .ok (.iload_n 2, 1) := by decide +kernel
theorem dX4_line_58 : decode cX4_line 58 = .ok (.iadd, 1) := by decide +kernel
theorem dX4_line_59 : decode cX4_line 59 = .ok (.iload_n 3, 1) := by decide +kernel
theorem dX4_line_60 : decode cX4_line 60 = .ok (.invokevirtual 153, 3) := by decide +kernel
theorem dX4_line_63 : decode cX4_line 63 = .ok (.ireturn, 1) := by decide +kernel
set_option maxRecDepth 20000 in
theorem ggX4_dirtyOf_X4_requireStripe : GoodIn wsX4_dirtyOf wsX4_requireStripe := goodIn_ca (goodIn_r _ [6, 7, 8] (by decide +kernel) (by decide +kernel)) (goodIn_sub (fun _ h => List.mem_cons_of_mem _ (List.mem_append_right _ h)) (by decide +kernel))
set_option maxRecDepth 20000 in
theorem gX4_dirtyOf_X4_requireStripe : GoodIn wsX4_dirtyOf (va_wsS RX4 56 yX4_requireStripe wsX4_requireStripe) := goodIn_app (goodIn_of _ (by decide +kernel)) ggX4_dirtyOf_X4_requireStripe
set_option maxRecDepth 20000 in
theorem ggX4_dirtyOf_X2_dirtyLinesOf : GoodIn wsX4_dirtyOf wsX2_dirtyLinesOf := goodIn_r _ [13, 14, 15, 16, 12, 17, 18, 19, 20, 5, 21, 32, 33, 34, 35, 36, 37, 38, 39, 40] (by decide +kernel) (by decide +kernel)
set_option maxRecDepth 20000 in
theorem gX4_dirtyOf_X2_dirtyLinesOf : GoodIn wsX4_dirtyOf (wsV RX4 156 RX2 yX2_dirtyLinesOf wsX2_dirtyLinesOf) := goodIn_app (goodIn_of _ (by decide +kernel)) ggX4_dirtyOf_X2_dirtyLinesOf
theorem dX4_dirtyOf_0 : decode cX4_dirtyOf 0 = .ok (.iload_n 1, 1) := by decide +kernel
theorem dX4_dirtyOf_1 : decode cX4_dirtyOf 1 = .ok (.invokestatic 56, 3) := by decide +kernel
theorem dX4_dirtyOf_4 : decode cX4_dirtyOf 4 = .ok (.aload_n 0, 1) := by decide +kernel
theorem dX4_dirtyOf_5 : decode cX4_dirtyOf 5 = .ok (.getfield 10, 3) := by decide +kernel
theorem dX4_dirtyOf_8 : decode cX4_dirtyOf 8 = .ok (.getfield 74, 3) := by decide +kernel
theorem dX4_dirtyOf_11 : decode cX4_dirtyOf 11 = .ok (.iload_n 1, 1) := by decide +kernel
theorem dX4_dirtyOf_12 : decode cX4_dirtyOf 12 = .ok (.invokevirtual 156, 3) := by decide +kernel
theorem dX4_dirtyOf_15 : decode cX4_dirtyOf 15 = .ok (.ireturn, 1) := by decide +kernel
set_option maxRecDepth 20000 in
theorem ggX4_dirty_X2_dirtyLines : GoodIn wsX4_dirty wsX2_dirtyLines := goodIn_r _ [7, 8, 19, 20, 21, 22, 23, 24, 25, 26, 27] (by decide +kernel) (by decide +kernel)
set_option maxRecDepth 20000 in
theorem gX4_dirty_X2_dirtyLines : GoodIn wsX4_dirty (wsV RX4 159 RX2 yX2_dirtyLines wsX2_dirtyLines) := goodIn_app (goodIn_of _ (by decide +kernel)) ggX4_dirty_X2_dirtyLines
theorem dX4_dirty_0 : decode cX4_dirty 0 = .ok (.aload_n 0, 1) := by decide +kernel
theorem dX4_dirty_1 : decode cX4_dirty 1 = .ok (.getfield 10, 3) := by decide +kernel
theorem dX4_dirty_4 : decode cX4_dirty 4 = .ok (.getfield 74, 3) := by decide +kernel
theorem dX4_dirty_7 : decode cX4_dirty 7 = .ok (.invokevirtual 159, 3) := by decide +kernel
theorem dX4_dirty_10 : decode cX4_dirty 10 = .ok (.ireturn, 1) := by decide +kernel
set_option maxRecDepth 20000 in
theorem ggX4_used_X2_usedLines : GoodIn wsX4_used wsX2_usedLines := goodIn_r _ [7, 8, 19, 20, 21, 22, 23, 24, 25, 26, 27] (by decide +kernel) (by decide +kernel)
set_option maxRecDepth 20000 in
theorem gX4_used_X2_usedLines : GoodIn wsX4_used (wsV RX4 162 RX2 yX2_usedLines wsX2_usedLines) := goodIn_app (goodIn_of _ (by decide +kernel)) ggX4_used_X2_usedLines
theorem dX4_used_0 : decode cX4_used 0 = .ok (.aload_n 0, 1) := by decide +kernel
theorem dX4_used_1 : decode cX4_used 1 = .ok (.getfield 10, 3) := by decide +kernel
theorem dX4_used_4 : decode cX4_used 4 = .ok (.getfield 74, 3) := by decide +kernel
theorem dX4_used_7 : decode cX4_used 7 = .ok (.invokevirtual 162, 3) := by decide +kernel
theorem dX4_used_10 : decode cX4_used 10 = .ok (.ireturn, 1) := by decide +kernel
set_option maxRecDepth 20000 in
theorem ggX4_onDisk_X4_requireBlock : GoodIn wsX4_onDisk wsX4_requireBlock := goodIn_ca (goodIn_r _ [5, 6, 7, 8, 9, 4, 10] (by decide +kernel) (by decide +kernel)) (goodIn_sub (fun _ h => List.mem_cons_of_mem _ (List.mem_append_right _ h)) (by decide +kernel))
set_option maxRecDepth 20000 in
theorem gX4_onDisk_X4_requireBlock : GoodIn wsX4_onDisk (va_wsS RX4 30 yX4_requireBlock wsX4_requireBlock) := goodIn_app (goodIn_of _ (by decide +kernel)) ggX4_onDisk_X4_requireBlock
set_option maxRecDepth 20000 in
theorem ggX4_onDisk_X1_diskValueOf : GoodIn wsX4_onDisk wsX1_diskValueOf := goodIn_r _ [15, 16, 9, 4, 10, 20, 21, 22, 23, 24, 25, 26] (by decide +kernel) (by decide +kernel)
set_option maxRecDepth 20000 in
theorem gX4_onDisk_X1_diskValueOf : GoodIn wsX4_onDisk (wsV RX4 165 RX1 yX1_diskValueOf wsX1_diskValueOf) := goodIn_app (goodIn_of _ (by decide +kernel)) ggX4_onDisk_X1_diskValueOf
theorem dX4_onDisk_0 : decode cX4_onDisk 0 = .ok (.iload_n 1, 1) := by decide +kernel
theorem dX4_onDisk_1 : decode cX4_onDisk 1 = .ok (.invokestatic 30, 3) := by decide +kernel
theorem dX4_onDisk_4 : decode cX4_onDisk 4 = .ok (.aload_n 0, 1) := by decide +kernel
theorem dX4_onDisk_5 : decode cX4_onDisk 5 = .ok (.getfield 10, 3) := by decide +kernel
theorem dX4_onDisk_8 : decode cX4_onDisk 8 = .ok (.iload_n 1, 1) := by decide +kernel
theorem dX4_onDisk_9 : decode cX4_onDisk 9 = .ok (.invokevirtual 165, 3) := by decide +kernel
theorem dX4_onDisk_12 : decode cX4_onDisk 12 = .ok (.ireturn, 1) := by decide +kernel
set_option maxRecDepth 20000 in
theorem ggX4_isFound_X4_requireBlock : GoodIn wsX4_isFound wsX4_requireBlock := goodIn_ca (goodIn_r _ [5, 6, 7, 8, 9, 4, 10] (by decide +kernel) (by decide +kernel)) (goodIn_sub (fun _ h => List.mem_cons_of_mem _ (List.mem_append_right _ h)) (by decide +kernel))
set_option maxRecDepth 20000 in
theorem gX4_isFound_X4_requireBlock : GoodIn wsX4_isFound (va_wsS RX4 30 yX4_requireBlock wsX4_requireBlock) := goodIn_app (goodIn_of _ (by decide +kernel)) ggX4_isFound_X4_requireBlock
set_option maxRecDepth 20000 in
theorem ggX4_isFound_X1_finds : GoodIn wsX4_isFound wsX1_finds := goodIn_r _ [15, 16, 17, 18, 19, 9, 4, 10, 20, 21, 22, 23, 24, 25, 26, 27, 28, 29, 30, 31, 32, 36, 37, 38, 39, 40, 41, 42, 43, 44, 45, 46, 47, 48, 49, 50, 51] (by decide +kernel) (by decide +kernel)
set_option maxRecDepth 20000 in
theorem gX4_isFound_X1_finds : GoodIn wsX4_isFound (wsV RX4 168 RX1 yX1_finds wsX1_finds) := goodIn_app (goodIn_of _ (by decide +kernel)) ggX4_isFound_X1_finds
theorem dX4_isFound_0 : decode cX4_isFound 0 = .ok (.iload_n 1, 1) := by decide +kernel
theorem dX4_isFound_1 : decode cX4_isFound 1 = .ok (.invokestatic 30, 3) := by decide +kernel
theorem dX4_isFound_4 : decode cX4_isFound 4 = .ok (.aload_n 0, 1) := by decide +kernel
theorem dX4_isFound_5 : decode cX4_isFound 5 = .ok (.getfield 10, 3) := by decide +kernel
theorem dX4_isFound_8 : decode cX4_isFound 8 = .ok (.iload_n 1, 1) := by decide +kernel
theorem dX4_isFound_9 : decode cX4_isFound 9 = .ok (.invokevirtual 168, 3) := by decide +kernel
theorem dX4_isFound_12 : decode cX4_isFound 12 = .ok (.ireturn, 1) := by decide +kernel
set_option maxRecDepth 20000 in
theorem ggX4_missing_X1_finds : GoodIn wsX4_missing wsX1_finds := goodIn_r _ [6, 7, 8, 9, 10, 11, 12, 13, 14, 15, 16, 17, 18, 19, 20, 21, 22, 23, 24, 25, 26, 30, 31, 32, 33, 34, 35, 36, 37, 38, 39, 40, 41, 42, 43, 44, 45] (by decide +kernel) (by decide +kernel)
set_option maxRecDepth 20000 in
theorem gX4_missing_X1_finds : GoodIn wsX4_missing (wsV RX4 168 RX1 yX1_finds wsX1_finds) := goodIn_app (goodIn_of _ (by decide +kernel)) ggX4_missing_X1_finds
theorem dX4_missing_0 : decode cX4_missing 0 = .ok (.iconst 0, 1) := by decide +kernel
theorem dX4_missing_1 : decode cX4_missing 1 = .ok (.istore_n 1, 1) := by decide +kernel
theorem dX4_missing_2 : decode cX4_missing 2 = .ok (.iconst 0, 1) := by decide +kernel
theorem dX4_missing_3 : decode cX4_missing 3 = .ok (.istore_n 2, 1) := by decide +kernel
theorem dX4_missing_4 : decode cX4_missing 4 = .ok (.iload_n 2, 1) := by decide +kernel
theorem dX4_missing_5 : decode cX4_missing 5 = .ok (.bipush 64, 2) := by decide +kernel
theorem dX4_missing_7 : decode cX4_missing 7 = .ok (.if_icmp .ge 23, 3) := by decide +kernel
theorem dX4_missing_10 : decode cX4_missing 10 = .ok (.aload_n 0, 1) := by decide +kernel
theorem dX4_missing_11 : decode cX4_missing 11 = .ok (.getfield 10, 3) := by decide +kernel
theorem dX4_missing_14 : decode cX4_missing 14 = .ok (.iload_n 2, 1) := by decide +kernel
theorem dX4_missing_15 : decode cX4_missing 15 = .ok (.invokevirtual 168, 3) := by decide +kernel
theorem dX4_missing_18 : decode cX4_missing 18 = .ok (.ifCond .ne 6, 3) := by decide +kernel
theorem dX4_missing_21 : decode cX4_missing 21 = .ok (.iinc 1 1, 3) := by decide +kernel
theorem dX4_missing_24 : decode cX4_missing 24 = .ok (.iinc 2 1, 3) := by decide +kernel
theorem dX4_missing_27 : decode cX4_missing 27 = .ok (.goto (-23), 3) := by decide +kernel
theorem dX4_missing_30 : decode cX4_missing 30 = .ok (.iload_n 1, 1) := by decide +kernel
theorem dX4_missing_31 : decode cX4_missing 31 = .ok (.ireturn, 1) := by decide +kernel
set_option maxRecDepth 20000 in
theorem ggX4_ifWritten_X4_requireBlock : GoodIn wsX4_ifWritten wsX4_requireBlock := goodIn_ca (goodIn_r _ [6, 7, 8, 9, 10, 5, 11] (by decide +kernel) (by decide +kernel)) (goodIn_sub (fun _ h => List.mem_cons_of_mem _ (List.mem_append_right _ h)) (by decide +kernel))
set_option maxRecDepth 20000 in
theorem gX4_ifWritten_X4_requireBlock : GoodIn wsX4_ifWritten (va_wsS RX4 30 yX4_requireBlock wsX4_requireBlock) := goodIn_app (goodIn_of _ (by decide +kernel)) ggX4_ifWritten_X4_requireBlock
set_option maxRecDepth 20000 in
theorem ggX4_ifWritten_X1_operationsIfWritten : GoodIn wsX4_ifWritten wsX1_operationsIfWritten := goodIn_r _ [16, 17, 18, 19, 20, 15, 21, 22, 23, 24, 5, 25, 26, 27, 28, 29, 30, 31, 32, 33, 34, 35, 36, 37, 38, 39, 40, 41, 42, 43, 44, 45, 46, 47, 48, 49, 50, 51, 52, 53, 54, 55, 56, 57, 58, 59, 60, 64, 65, 66, 67, 68, 69, 70, 71, 72, 73, 74, 75, 76, 77, 78, 79] (by decide +kernel) (by decide +kernel)
set_option maxRecDepth 20000 in
theorem gX4_ifWritten_X1_operationsIfWritten : GoodIn wsX4_ifWritten (wsV RX4 172 RX1 yX1_operationsIfWritten wsX1_operationsIfWritten) := goodIn_app (goodIn_of _ (by decide +kernel)) ggX4_ifWritten_X1_operationsIfWritten
theorem dX4_ifWritten_0 : decode cX4_ifWritten 0 = .ok (.iload_n 1, 1) := by decide +kernel
theorem dX4_ifWritten_1 : decode cX4_ifWritten 1 = .ok (.invokestatic 30, 3) := by decide +kernel
theorem dX4_ifWritten_4 : decode cX4_ifWritten 4 = .ok (.aload_n 0, 1) := by decide +kernel
theorem dX4_ifWritten_5 : decode cX4_ifWritten 5 = .ok (.getfield 10, 3) := by decide +kernel
theorem dX4_ifWritten_8 : decode cX4_ifWritten 8 = .ok (.getfield 93, 3) := by decide +kernel
theorem dX4_ifWritten_11 : decode cX4_ifWritten 11 = .ok (.ifCond .eq 14, 3) := by decide +kernel
theorem dX4_ifWritten_14 : decode cX4_ifWritten 14 = .ok (.aload_n 0, 1) := by decide +kernel
theorem dX4_ifWritten_15 : decode cX4_ifWritten 15 = .ok (.getfield 10, 3) := by decide +kernel
theorem dX4_ifWritten_18 : decode cX4_ifWritten 18 = .ok (.iload_n 1, 1) := by decide +kernel
theorem dX4_ifWritten_19 : decode cX4_ifWritten 19 = .ok (.invokevirtual 172, 3) := by decide +kernel
theorem dX4_ifWritten_22 : decode cX4_ifWritten 22 = .ok (.goto 4, 3) := by decide +kernel
theorem dX4_ifWritten_25 : decode cX4_ifWritten 25 = .ok (.iconst (-1), 1) := by decide +kernel
theorem dX4_ifWritten_26 : decode cX4_ifWritten 26 = .ok (.ireturn, 1) := by decide +kernel
set_option maxRecDepth 20000 in
theorem ggX4_ifDestaged_X1_canDestage : GoodIn wsX4_ifDestaged wsX1_canDestage := goodIn_r _ [6, 7, 8, 9, 39, 40, 41, 42, 43, 44, 45, 46, 47, 48, 49, 50, 51, 52, 53, 54] (by decide +kernel) (by decide +kernel)
set_option maxRecDepth 20000 in
theorem gX4_ifDestaged_X1_canDestage : GoodIn wsX4_ifDestaged (wsV RX4 175 RX1 yX1_canDestage wsX1_canDestage) := goodIn_app (goodIn_of _ (by decide +kernel)) ggX4_ifDestaged_X1_canDestage
set_option maxRecDepth 20000 in
theorem ggX4_ifDestaged_X1_operationsIfDestaged : GoodIn wsX4_ifDestaged wsX1_operationsIfDestaged := goodIn_r _ [13, 8, 14, 15, 16, 17, 18, 19, 20, 21, 22, 23, 24, 25, 26, 27, 28, 29, 30, 31, 32, 33, 34, 35, 39, 40, 41, 42, 43, 44, 45, 46, 47, 48, 49, 50, 51, 52, 53, 54] (by decide +kernel) (by decide +kernel)
set_option maxRecDepth 20000 in
theorem gX4_ifDestaged_X1_operationsIfDestaged : GoodIn wsX4_ifDestaged (wsV RX4 178 RX1 yX1_operationsIfDestaged wsX1_operationsIfDestaged) := goodIn_app (goodIn_of _ (by decide +kernel)) ggX4_ifDestaged_X1_operationsIfDestaged
theorem dX4_ifDestaged_0 : decode cX4_ifDestaged 0 = .ok (.aload_n 0, 1) := by decide +kernel
theorem dX4_ifDestaged_1 : decode cX4_ifDestaged 1 = .ok (.getfield 10, 3) := by decide +kernel
theorem dX4_ifDestaged_4 : decode cX4_ifDestaged 4 = .ok (.invokevirtual 175, 3) := by decide +kernel
theorem dX4_ifDestaged_7 : decode cX4_ifDestaged 7 = .ok (.ifCond .eq 13, 3) := by decide +kernel
theorem dX4_ifDestaged_10 : decode cX4_ifDestaged 10 = .ok (.aload_n 0, 1) := by decide +kernel
theorem dX4_ifDestaged_11 : decode cX4_ifDestaged 11 = .ok (.getfield 10, 3) := by decide +kernel
theorem dX4_ifDestaged_14 : decode cX4_ifDestaged 14 = .ok (.invokevirtual 178, 3) := by decide +kernel
theorem dX4_ifDestaged_17 : decode cX4_ifDestaged 17 = .ok (.goto 4, 3) := by decide +kernel
theorem dX4_ifDestaged_20 : decode cX4_ifDestaged 20 = .ok (.iconst (-1), 1) := by decide +kernel
theorem dX4_ifDestaged_21 : decode cX4_ifDestaged 21 = .ok (.ireturn, 1) := by decide +kernel
set_option maxRecDepth 20000 in
theorem ggX4_ticksToLoss_X1_canDestage : GoodIn wsX4_ticksToLoss wsX1_canDestage := goodIn_r _ [8, 9, 10, 11, 21, 22, 23, 24, 25, 26, 27, 28, 29, 30, 31, 32, 33, 34, 35, 36] (by decide +kernel) (by decide +kernel)
set_option maxRecDepth 20000 in
theorem gX4_ticksToLoss_X1_canDestage : GoodIn wsX4_ticksToLoss (wsV RX4 175 RX1 yX1_canDestage wsX1_canDestage) := goodIn_app (goodIn_of _ (by decide +kernel)) ggX4_ticksToLoss_X1_canDestage
set_option maxRecDepth 20000 in
theorem ggX4_ticksToLoss_X2_dirtyLines : GoodIn wsX4_ticksToLoss wsX2_dirtyLines := goodIn_r _ [16, 17, 28, 29, 30, 31, 32, 33, 34, 35, 36] (by decide +kernel) (by decide +kernel)
set_option maxRecDepth 20000 in
theorem gX4_ticksToLoss_X2_dirtyLines : GoodIn wsX4_ticksToLoss (wsV RX4 159 RX2 yX2_dirtyLines wsX2_dirtyLines) := goodIn_app (goodIn_of _ (by decide +kernel)) ggX4_ticksToLoss_X2_dirtyLines
theorem dX4_ticksToLoss_0 : decode cX4_ticksToLoss 0 = .ok (.aload_n 0, 1) := by decide +kernel
theorem dX4_ticksToLoss_1 : decode cX4_ticksToLoss 1 = .ok (.getfield 10, 3) := by decide +kernel
theorem dX4_ticksToLoss_4 : decode cX4_ticksToLoss 4 = .ok (.invokevirtual 175, 3) := by decide +kernel
theorem dX4_ticksToLoss_7 : decode cX4_ticksToLoss 7 = .ok (.ifCond .ne 16, 3) := by decide +kernel
theorem dX4_ticksToLoss_10 : decode cX4_ticksToLoss 10 = .ok (.aload_n 0, 1) := by decide +kernel
theorem dX4_ticksToLoss_11 : decode cX4_ticksToLoss 11 = .ok (.getfield 10, 3) := by decide +kernel
theorem dX4_ticksToLoss_14 : decode cX4_ticksToLoss 14 = .ok (.getfield 74, 3) := by decide +kernel
theorem dX4_ticksToLoss_17 : decode cX4_ticksToLoss 17 = .ok (.invokevirtual 159, 3) := by decide +kernel
theorem dX4_ticksToLoss_20 : decode cX4_ticksToLoss 20 = .ok (.ifCond .ne 5, 3) := by decide +kernel
theorem dX4_ticksToLoss_23 : decode cX4_ticksToLoss 23 = .ok (.iconst (-1), 1) := by decide +kernel
theorem dX4_ticksToLoss_24 : decode cX4_ticksToLoss 24 = .ok (.ireturn, 1) := by decide +kernel
theorem dX4_ticksToLoss_25 : decode cX4_ticksToLoss 25 = .ok (.aload_n 0, 1) := by decide +kernel
theorem dX4_ticksToLoss_26 : decode cX4_ticksToLoss 26 = .ok (.getfield 10, 3) := by decide +kernel
theorem dX4_ticksToLoss_29 : decode cX4_ticksToLoss 29 = .ok (.getfield 74, 3) := by decide +kernel
theorem dX4_ticksToLoss_32 : decode cX4_ticksToLoss 32 = .ok (.getfield 78, 3) := by decide +kernel
theorem dX4_ticksToLoss_35 : decode cX4_ticksToLoss 35 = .ok (.ireturn, 1) := by decide +kernel
theorem dX4_count_0 : decode cX4_count 0 = .ok (.iload_n 1, 1) := by decide +kernel
theorem dX4_count_1 : decode cX4_count 1 = .ok (.ifCond .lt 9, 3) := by decide +kernel
theorem dX4_count_4 : decode cX4_count 4 = .ok (.iload_n 1, 1) := by decide +kernel
theorem dX4_count_5 : decode cX4_count 5 = .ok (.bipush 7, 2) := by decide +kernel
theorem dX4_count_7 : decode cX4_count 7 = .ok (.if_icmp .le 13, 3) := by decide +kernel
theorem dX4_count_10 : decode cX4_count 10 = .ok (.new 34, 3) := by decide +kernel
theorem dX4_count_13 : decode cX4_count 13 = .ok (.dup, 1) := by decide +kernel
theorem dX4_count_14 : decode cX4_count 14 = .ok (.ldc 181, 2) := by decide +kernel
theorem dX4_count_16 : decode cX4_count 16 = .ok (.invokespecial 38, 3) := by decide +kernel
theorem dX4_count_19 : decode cX4_count 19 = .ok (.athrow, 1) := by decide +kernel
theorem dX4_count_20 : decode cX4_count 20 = .ok (.aload_n 0, 1) := by decide +kernel
theorem dX4_count_21 : decode cX4_count 21 = .ok (.getfield 10, 3) := by decide +kernel
theorem dX4_count_24 : decode cX4_count 24 = .ok (.getfield 183, 3) := by decide +kernel
theorem dX4_count_27 : decode cX4_count 27 = .ok (.iload_n 1, 1) := by decide +kernel
theorem dX4_count_28 : decode cX4_count 28 = .ok (.iaload, 1) := by decide +kernel
theorem dX4_count_29 : decode cX4_count 29 = .ok (.ireturn, 1) := by decide +kernel
theorem dX4_blocksPerStripe_0 : decode cX4_blocksPerStripe 0 = .ok (.aload_n 0, 1) := by decide +kernel
theorem dX4_blocksPerStripe_1 : decode cX4_blocksPerStripe 1 = .ok (.getfield 10, 3) := by decide +kernel
theorem dX4_blocksPerStripe_4 : decode cX4_blocksPerStripe 4 = .ok (.getfield 183, 3) := by decide +kernel
theorem dX4_blocksPerStripe_7 : decode cX4_blocksPerStripe 7 = .ok (.bipush 7, 2) := by decide +kernel
theorem dX4_blocksPerStripe_9 : decode cX4_blocksPerStripe 9 = .ok (.iaload, 1) := by decide +kernel
theorem dX4_blocksPerStripe_10 : decode cX4_blocksPerStripe 10 = .ok (.istore_n 1, 1) := by decide +kernel
theorem dX4_blocksPerStripe_11 : decode cX4_blocksPerStripe 11 = .ok (.iload_n 1, 1) := by decide +kernel
theorem dX4_blocksPerStripe_12 : decode cX4_blocksPerStripe 12 = .ok (.ifCond .ne 5, 3) := by decide +kernel
theorem dX4_blocksPerStripe_15 : decode cX4_blocksPerStripe 15 = .ok (.fconst 0, 1) := by decide +kernel
theorem dX4_blocksPerStripe_16 : decode cX4_blocksPerStripe 16 = .ok (.freturn, 1) := by decide +kernel
theorem dX4_blocksPerStripe_17 : decode cX4_blocksPerStripe 17 = .ok (.aload_n 0, 1) := by decide +kernel
theorem dX4_blocksPerStripe_18 : decode cX4_blocksPerStripe 18 = .ok (.getfield 10, 3) := by decide +kernel
theorem dX4_blocksPerStripe_21 : decode cX4_blocksPerStripe 21 = .ok (.getfield 183, 3) := by decide +kernel
theorem dX4_blocksPerStripe_24 : decode cX4_blocksPerStripe 24 = .ok (.bipush 8, 2) := by decide +kernel
theorem dX4_blocksPerStripe_26 : decode cX4_blocksPerStripe 26 = .ok (.iaload, 1) := by decide +kernel
theorem dX4_blocksPerStripe_27 : decode cX4_blocksPerStripe 27 = .ok (.i2f, 1) := by decide +kernel
theorem dX4_blocksPerStripe_28 : decode cX4_blocksPerStripe 28 = .ok (.iload_n 1, 1) := by decide +kernel
theorem dX4_blocksPerStripe_29 : decode cX4_blocksPerStripe 29 = .ok (.i2f, 1) := by decide +kernel
theorem dX4_blocksPerStripe_30 : decode cX4_blocksPerStripe 30 = .ok (.fdiv, 1) := by decide +kernel
theorem dX4_blocksPerStripe_31 : decode cX4_blocksPerStripe 31 = .ok (.freturn, 1) := by decide +kernel
theorem dX4_savedStates_0 : decode cX4_savedStates 0 = .ok (.aload_n 0, 1) := by decide +kernel
theorem dX4_savedStates_1 : decode cX4_savedStates 1 = .ok (.getfield 19, 3) := by decide +kernel
theorem dX4_savedStates_4 : decode cX4_savedStates 4 = .ok (.getfield 135, 3) := by decide +kernel
theorem dX4_savedStates_7 : decode cX4_savedStates 7 = .ok (.ireturn, 1) := by decide +kernel
theorem dX4_textLength_0 : decode cX4_textLength 0 = .ok (.aload_n 0, 1) := by decide +kernel
theorem dX4_textLength_1 : decode cX4_textLength 1 = .ok (.getfield 26, 3) := by decide +kernel
theorem dX4_textLength_4 : decode cX4_textLength 4 = .ok (.getfield 107, 3) := by decide +kernel
theorem dX4_textLength_7 : decode cX4_textLength 7 = .ok (.ireturn, 1) := by decide +kernel
theorem dX4_isBlock_0 : decode cX4_isBlock 0 = .ok (.iload_n 0, 1) := by decide +kernel
theorem dX4_isBlock_1 : decode cX4_isBlock 1 = .ok (.ifCond .lt 13, 3) := by decide +kernel
theorem dX4_isBlock_4 : decode cX4_isBlock 4 = .ok (.iload_n 0, 1) := by decide +kernel
theorem dX4_isBlock_5 : decode cX4_isBlock 5 = .ok (.bipush 64, 2) := by decide +kernel
theorem dX4_isBlock_7 : decode cX4_isBlock 7 = .ok (.if_icmp .ge 7, 3) := by decide +kernel
theorem dX4_isBlock_10 : decode cX4_isBlock 10 = .ok (.iconst 1, 1) := by decide +kernel
theorem dX4_isBlock_11 : decode cX4_isBlock 11 = .ok (.goto 4, 3) := by decide +kernel
theorem dX4_isBlock_14 : decode cX4_isBlock 14 = .ok (.iconst 0, 1) := by decide +kernel
theorem dX4_isBlock_15 : decode cX4_isBlock 15 = .ok (.ireturn, 1) := by decide +kernel
theorem dX4_isLine_0 : decode cX4_isLine 0 = .ok (.iload_n 0, 1) := by decide +kernel
theorem dX4_isLine_1 : decode cX4_isLine 1 = .ok (.ifCond .lt 13, 3) := by decide +kernel
theorem dX4_isLine_4 : decode cX4_isLine 4 = .ok (.iload_n 0, 1) := by decide +kernel
theorem dX4_isLine_5 : decode cX4_isLine 5 = .ok (.bipush 12, 2) := by decide +kernel
theorem dX4_isLine_7 : decode cX4_isLine 7 = .ok (.if_icmp .ge 7, 3) := by decide +kernel
theorem dX4_isLine_10 : decode cX4_isLine 10 = .ok (.iconst 1, 1) := by decide +kernel
theorem dX4_isLine_11 : decode cX4_isLine 11 = .ok (.goto 4, 3) := by decide +kernel
theorem dX4_isLine_14 : decode cX4_isLine 14 = .ok (.iconst 0, 1) := by decide +kernel
theorem dX4_isLine_15 : decode cX4_isLine 15 = .ok (.ireturn, 1) := by decide +kernel
theorem dX4_stripeOf_0 : decode cX4_stripeOf 0 = .ok (.iload_n 0, 1) := by decide +kernel
theorem dX4_stripeOf_1 : decode cX4_stripeOf 1 = .ok (.iconst 4, 1) := by decide +kernel
theorem dX4_stripeOf_2 : decode cX4_stripeOf 2 = .ok (.idiv, 1) := by decide +kernel
theorem dX4_stripeOf_3 : decode cX4_stripeOf 3 = .ok (.ireturn, 1) := by decide +kernel
set_option maxRecDepth 20000 in
theorem ggX4_requireBlock_X4_isBlock : GoodIn wsX4_requireBlock wsX4_isBlock := goodIn_r _ [6] (by decide +kernel) (by decide +kernel)
set_option maxRecDepth 20000 in
theorem gX4_requireBlock_X4_isBlock : GoodIn wsX4_requireBlock (va_wsS RX4 187 yX4_isBlock wsX4_isBlock) := goodIn_app (goodIn_of _ (by decide +kernel)) ggX4_requireBlock_X4_isBlock
theorem dX4_requireBlock_0 : decode cX4_requireBlock 0 = .ok (.iload_n 0, 1) := by decide +kernel
theorem dX4_requireBlock_1 : decode cX4_requireBlock 1 = .ok (.invokestatic 187, 3) := by decide +kernel
theorem dX4_requireBlock_4 : decode cX4_requireBlock 4 = .ok (.ifCond .ne 13, 3) := by decide +kernel
theorem dX4_requireBlock_7 : decode cX4_requireBlock 7 = .ok (.new 146, 3) := by decide +kernel
theorem dX4_requireBlock_10 : decode cX4_requireBlock 10 = .ok (.dup, 1) := by decide +kernel
theorem dX4_requireBlock_11 : decode cX4_requireBlock 11 = .ok (.ldc 190, 2) := by decide +kernel
theorem dX4_requireBlock_13 : decode cX4_requireBlock 13 = .ok (.invokespecial 150, 3) := by decide +kernel
theorem dX4_requireBlock_16 : decode cX4_requireBlock 16 = .ok (.athrow, 1) := by decide +kernel
theorem dX4_requireBlock_17 : decode cX4_requireBlock 17 = .ok (.return_, 1) := by decide +kernel
theorem dX4_requireStripe_0 : decode cX4_requireStripe 0 = .ok (.iload_n 0, 1) := by decide +kernel
theorem dX4_requireStripe_1 : decode cX4_requireStripe 1 = .ok (.ifCond .lt 9, 3) := by decide +kernel
theorem dX4_requireStripe_4 : decode cX4_requireStripe 4 = .ok (.iload_n 0, 1) := by decide +kernel
theorem dX4_requireStripe_5 : decode cX4_requireStripe 5 = .ok (.bipush 16, 2) := by decide +kernel
theorem dX4_requireStripe_7 : decode cX4_requireStripe 7 = .ok (.if_icmp .lt 13, 3) := by decide +kernel
theorem dX4_requireStripe_10 : decode cX4_requireStripe 10 = .ok (.new 146, 3) := by decide +kernel
theorem dX4_requireStripe_13 : decode cX4_requireStripe 13 = .ok (.dup, 1) := by decide +kernel
theorem dX4_requireStripe_14 : decode cX4_requireStripe 14 = .ok (.ldc 192, 2) := by decide +kernel
theorem dX4_requireStripe_16 : decode cX4_requireStripe 16 = .ok (.invokespecial 150, 3) := by decide +kernel
theorem dX4_requireStripe_19 : decode cX4_requireStripe 19 = .ok (.athrow, 1) := by decide +kernel
theorem dX4_requireStripe_20 : decode cX4_requireStripe 20 = .ok (.return_, 1) := by decide +kernel
theorem dX4_requirePower_0 : decode cX4_requirePower 0 = .ok (.aload_n 0, 1) := by decide +kernel
theorem dX4_requirePower_1 : decode cX4_requirePower 1 = .ok (.getfield 10, 3) := by decide +kernel
theorem dX4_requirePower_4 : decode cX4_requirePower 4 = .ok (.getfield 93, 3) := by decide +kernel
theorem dX4_requirePower_7 : decode cX4_requirePower 7 = .ok (.ifCond .ne 13, 3) := by decide +kernel
theorem dX4_requirePower_10 : decode cX4_requirePower 10 = .ok (.new 97, 3) := by decide +kernel
theorem dX4_requirePower_13 : decode cX4_requirePower 13 = .ok (.dup, 1) := by decide +kernel
theorem dX4_requirePower_14 : decode cX4_requirePower 14 = .ok (.ldc 194, 2) := by decide +kernel
theorem dX4_requirePower_16 : decode cX4_requirePower 16 = .ok (.invokespecial 101, 3) := by decide +kernel
theorem dX4_requirePower_19 : decode cX4_requirePower 19 = .ok (.athrow, 1) := by decide +kernel
theorem dX4_requirePower_20 : decode cX4_requirePower 20 = .ok (.return_, 1) := by decide +kernel
set_option maxRecDepth 20000 in
theorem ggX4_requireDestaging_X1_canDestage : GoodIn wsX4_requireDestaging wsX1_canDestage := goodIn_r _ [8, 9, 10, 11, 15, 16, 17, 18, 19, 20, 21, 22, 23, 24, 25, 26, 27, 28, 29, 30] (by decide +kernel) (by decide +kernel)
set_option maxRecDepth 20000 in
theorem gX4_requireDestaging_X1_canDestage : GoodIn wsX4_requireDestaging (wsV RX4 175 RX1 yX1_canDestage wsX1_canDestage) := goodIn_app (goodIn_of _ (by decide +kernel)) ggX4_requireDestaging_X1_canDestage
theorem dX4_requireDestaging_0 : decode cX4_requireDestaging 0 = .ok (.aload_n 0, 1) := by decide +kernel
theorem dX4_requireDestaging_1 : decode cX4_requireDestaging 1 = .ok (.getfield 10, 3) := by decide +kernel
theorem dX4_requireDestaging_4 : decode cX4_requireDestaging 4 = .ok (.invokevirtual 175, 3) := by decide +kernel
theorem dX4_requireDestaging_7 : decode cX4_requireDestaging 7 = .ok (.ifCond .ne 13, 3) := by decide +kernel
theorem dX4_requireDestaging_10 : decode cX4_requireDestaging 10 = .ok (.new 97, 3) := by decide +kernel
theorem dX4_requireDestaging_13 : decode cX4_requireDestaging 13 = .ok (.dup, 1) := by decide +kernel
theorem dX4_requireDestaging_14 : decode cX4_requireDestaging 14 = .ok (.ldc 196, 2) := by decide +kernel
theorem dX4_requireDestaging_16 : decode cX4_requireDestaging 16 = .ok (.invokespecial 101, 3) := by decide +kernel
theorem dX4_requireDestaging_19 : decode cX4_requireDestaging 19 = .ok (.athrow, 1) := by decide +kernel
theorem dX4_requireDestaging_20 : decode cX4_requireDestaging 20 = .ok (.return_, 1) := by decide +kernel
set_option maxRecDepth 20000 in
theorem ggX4_execute_X1_writeBlock : GoodIn wsX4_execute wsX1_writeBlock := goodIn_r _ [13, 14, 15, 16, 17, 18, 19, 20, 21, 22, 12, 23, 24, 25, 26, 27, 28, 29, 30, 31, 32, 33, 34, 35, 36, 37, 38, 39, 40, 41, 42, 43, 44, 45, 46, 47, 48, 49, 50, 51, 52, 53, 54, 55, 56, 57, 58, 59, 60, 61, 62, 63, 64, 65, 66, 67, 68, 69, 70, 71, 72, 73, 74, 75, 76, 77, 78, 79, 80, 81, 82, 83, 84, 85, 86, 87, 88, 89, 90, 91, 92, 93, 94, 95, 96, 97, 98, 99, 100, 101, 102, 174, 175, 176, 177, 178, 179, 180, 181, 182, 183, 184, 185, 186, 187, 188, 189] (by decide +kernel) (by decide +kernel)
set_option maxRecDepth 20000 in
theorem gX4_execute_X1_writeBlock : GoodIn wsX4_execute (wsV RX4 48 RX1 yX1_writeBlock wsX1_writeBlock) := goodIn_app (goodIn_of _ (by decide +kernel)) ggX4_execute_X1_writeBlock
set_option maxRecDepth 20000 in
theorem ggX4_execute_X1_readBlock : GoodIn wsX4_execute wsX1_readBlock := goodIn_r _ [106, 24, 14, 64, 97, 98, 99, 36, 100, 101, 102, 34, 35, 37, 38, 39, 18, 40, 107, 89, 90, 91, 92, 46, 108, 109, 110, 12, 111, 72, 17, 19, 174, 175, 176, 177, 178, 179, 180, 181, 182, 183, 184, 185, 186, 187, 188, 189] (by decide +kernel) (by decide +kernel)
set_option maxRecDepth 20000 in
theorem gX4_execute_X1_readBlock : GoodIn wsX4_execute (wsV RX4 52 RX1 yX1_readBlock wsX1_readBlock) := goodIn_app (goodIn_of _ (by decide +kernel)) ggX4_execute_X1_readBlock
set_option maxRecDepth 20000 in
theorem ggX4_execute_X1_canDestage : GoodIn wsX4_execute wsX1_canDestage := goodIn_r _ [115, 116, 24, 25, 174, 175, 176, 177, 178, 179, 180, 181, 182, 183, 184, 185, 186, 187, 188, 189] (by decide +kernel) (by decide +kernel)
set_option maxRecDepth 20000 in
theorem gX4_execute_X1_canDestage : GoodIn wsX4_execute (wsV RX4 175 RX1 yX1_canDestage wsX1_canDestage) := goodIn_app (goodIn_of _ (by decide +kernel)) ggX4_execute_X1_canDestage
set_option maxRecDepth 20000 in
theorem ggX4_execute_X1_destageStripe : GoodIn wsX4_execute wsX1_destageStripe := goodIn_r _ [62, 24, 63, 64, 65, 66, 14, 67, 56, 57, 36, 58, 45, 38, 31, 18, 32, 68, 69, 70, 12, 71, 72, 73, 17, 19, 74, 75, 76, 77, 78, 79, 80, 81, 174, 175, 176, 177, 178, 179, 180, 181, 182, 183, 184, 185, 186, 187, 188, 189] (by decide +kernel) (by decide +kernel)
set_option maxRecDepth 20000 in
theorem gX4_execute_X1_destageStripe : GoodIn wsX4_execute (wsV RX4 62 RX1 yX1_destageStripe wsX1_destageStripe) := goodIn_app (goodIn_of _ (by decide +kernel)) ggX4_execute_X1_destageStripe
set_option maxRecDepth 20000 in
theorem ggX4_execute_X1_letPass : GoodIn wsX4_execute wsX1_letPass := goodIn_r _ [121, 24, 14, 122, 113, 114, 12, 115, 116, 25, 123, 124, 125, 36, 126, 127, 128, 129, 130, 131, 132, 133, 134, 135, 136, 137, 138, 139, 140, 141, 142, 143, 45, 144, 145, 146, 147, 38, 39, 18, 40, 174, 175, 176, 177, 178, 179, 180, 181, 182, 183, 184, 185, 186, 187, 188, 189] (by decide +kernel) (by decide +kernel)
set_option maxRecDepth 20000 in
theorem gX4_execute_X1_letPass : GoodIn wsX4_execute (wsV RX4 71 RX1 yX1_letPass wsX1_letPass) := goodIn_app (goodIn_of _ (by decide +kernel)) ggX4_execute_X1_letPass
set_option maxRecDepth 20000 in
theorem ggX4_execute_X1_switchPower : GoodIn wsX4_execute wsX1_switchPower := goodIn_r _ [151, 116, 24, 25, 26, 152, 153, 154, 12, 155, 59, 60, 61, 62, 63, 64, 65, 66, 14, 67, 56, 57, 36, 58, 45, 38, 31, 18, 32, 68, 69, 70, 71, 72, 73, 17, 19, 74, 75, 76, 77, 78, 79, 80, 81, 174, 175, 176, 177, 178, 179, 180, 181, 182, 183, 184, 185, 186, 187, 188, 189] (by decide +kernel) (by decide +kernel)
set_option maxRecDepth 20000 in
theorem gX4_execute_X1_switchPower : GoodIn wsX4_execute (wsV RX4 89 RX1 yX1_switchPower wsX1_switchPower) := goodIn_app (goodIn_of _ (by decide +kernel)) ggX4_execute_X1_switchPower
set_option maxRecDepth 20000 in
theorem ggX4_execute_X1_placeStick : GoodIn wsX4_execute wsX1_placeStick := goodIn_r _ [159, 24, 25, 160, 161, 162, 12, 163, 63, 65, 73, 17, 18, 19, 164, 145, 146, 36, 147, 38, 45, 39, 40, 174, 175, 176, 177, 178, 179, 180, 181, 182, 183, 184, 185, 186, 187, 188, 189] (by decide +kernel) (by decide +kernel)
set_option maxRecDepth 20000 in
theorem gX4_execute_X1_placeStick : GoodIn wsX4_execute (wsV RX4 102 RX1 yX1_placeStick wsX1_placeStick) := goodIn_app (goodIn_of _ (by decide +kernel)) ggX4_execute_X1_placeStick
theorem dX4_execute_0 : decode cX4_execute 0 = .ok (.aload_n 0, 1) := by decide +kernel
theorem dX4_execute_1 : decode cX4_execute 1 = .ok (.getfield 26, 3) := by decide +kernel
theorem dX4_execute_4 : decode cX4_execute 4 = .ok (.getfield 198, 3) := by decide +kernel
theorem dX4_execute_7 : decode cX4_execute 7 = .ok (.tableswitch 236 0 5 #[37, 77, 110, 143, 159, 184], 37) := by decide +kernel
theorem dX4_execute_44 : decode cX4_execute 44 = .ok (.aload_n 0, 1) := by decide +kernel
theorem dX4_execute_45 : decode cX4_execute 45 = .ok (.getfield 10, 3) := by decide +kernel
theorem dX4_execute_48 : decode cX4_execute 48 = .ok (.getfield 93, 3) := by decide +kernel
theorem dX4_execute_51 : decode cX4_execute 51 = .ok (.ifCond .eq 25, 3) := by decide +kernel
theorem dX4_execute_54 : decode cX4_execute 54 = .ok (.aload_n 0, 1) := by decide +kernel
theorem dX4_execute_55 : decode cX4_execute 55 = .ok (.getfield 10, 3) := by decide +kernel
theorem dX4_execute_58 : decode cX4_execute 58 = .ok (.aload_n 0, 1) := by decide +kernel
theorem dX4_execute_59 : decode cX4_execute 59 = .ok (.getfield 26, 3) := by decide +kernel
theorem dX4_execute_62 : decode cX4_execute 62 = .ok (.getfield 201, 3) := by decide +kernel
theorem dX4_execute_65 : decode cX4_execute 65 = .ok (.aload_n 0, 1) := by decide +kernel
theorem dX4_execute_66 : decode cX4_execute 66 = .ok (.getfield 26, 3) := by decide +kernel
theorem dX4_execute_69 : decode cX4_execute 69 = .ok (.getfield 204, 3) := by decide +kernel
theorem dX4_execute_72 : decode cX4_execute 72 = .ok (.invokevirtual 48, 3) := by decide +kernel
theorem dX4_execute_75 : decode cX4_execute 75 = .ok (.pop, 1) := by decide +kernel
theorem dX4_execute_76 : decode cX4_execute 76 = .ok (.aload_n 0, 1) := by decide +kernel
theorem dX4_execute_77 : decode cX4_execute 77 = .ok (.getfield 10, 3) := by decide +kernel
theorem dX4_execute_80 : decode cX4_execute 80 = .ok (.getfield 93, 3) := by decide +kernel
theorem dX4_execute_83 : decode cX4_execute 83 = .ok (.ireturn, 1) := by decide +kernel
theorem dX4_execute_84 : decode cX4_execute 84 = .ok (.aload_n 0, 1) := by decide +kernel
theorem dX4_execute_85 : decode cX4_execute 85 = .ok (.getfield 10, 3) := by decide +kernel
theorem dX4_execute_88 : decode cX4_execute 88 = .ok (.getfield 93, 3) := by decide +kernel
theorem dX4_execute_91 : decode cX4_execute 91 = .ok (.ifCond .eq 18, 3) := by decide +kernel
theorem dX4_execute_94 : decode cX4_execute 94 = .ok (.aload_n 0, 1) := by decide +kernel
theorem dX4_execute_95 : decode cX4_execute 95 = .ok (.getfield 10, 3) := by decide +kernel
theorem dX4_execute_98 : decode cX4_execute 98 = .ok (.aload_n 0, 1) := by decide +kernel
theorem dX4_execute_99 : decode cX4_execute 99 = .ok (.getfield 26, 3) := by decide +kernel
theorem dX4_execute_102 : decode cX4_execute 102 = .ok (.getfield 201, 3) := by decide +kernel
theorem dX4_execute_105 : decode cX4_execute 105 = .ok (.invokevirtual 52, 3) := by decide +kernel
theorem dX4_execute_108 : decode cX4_execute 108 = .ok (.pop, 1) := by decide +kernel
theorem dX4_execute_109 : decode cX4_execute 109 = .ok (.aload_n 0, 1) := by decide +kernel
theorem dX4_execute_110 : decode cX4_execute 110 = .ok (.getfield 10, 3) := by decide +kernel
theorem dX4_execute_113 : decode cX4_execute 113 = .ok (.getfield 93, 3) := by decide +kernel
theorem dX4_execute_116 : decode cX4_execute 116 = .ok (.ireturn, 1) := by decide +kernel
theorem dX4_execute_117 : decode cX4_execute 117 = .ok (.aload_n 0, 1) := by decide +kernel
theorem dX4_execute_118 : decode cX4_execute 118 = .ok (.getfield 10, 3) := by decide +kernel
theorem dX4_execute_121 : decode cX4_execute 121 = .ok (.invokevirtual 175, 3) := by decide +kernel
theorem dX4_execute_124 : decode cX4_execute 124 = .ok (.ifCond .eq 18, 3) := by decide +kernel
theorem dX4_execute_127 : decode cX4_execute 127 = .ok (.aload_n 0, 1) := by decide +kernel
theorem dX4_execute_128 : decode cX4_execute 128 = .ok (.getfield 10, 3) := by decide +kernel
theorem dX4_execute_131 : decode cX4_execute 131 = .ok (.aload_n 0, 1) := by decide +kernel
theorem dX4_execute_132 : decode cX4_execute 132 = .ok (.getfield 26, 3) := by decide +kernel
theorem dX4_execute_135 : decode cX4_execute 135 = .ok (.getfield 201, 3) := by decide +kernel
theorem dX4_execute_138 : decode cX4_execute 138 = .ok (.invokevirtual 62, 3) := by decide +kernel
theorem dX4_execute_141 : decode cX4_execute 141 = .ok (.pop, 1) := by decide +kernel
theorem dX4_execute_142 : decode cX4_execute 142 = .ok (.aload_n 0, 1) := by decide +kernel
theorem dX4_execute_143 : decode cX4_execute 143 = .ok (.getfield 10, 3) := by decide +kernel
theorem dX4_execute_146 : decode cX4_execute 146 = .ok (.invokevirtual 175, 3) := by decide +kernel
theorem dX4_execute_149 : decode cX4_execute 149 = .ok (.ireturn, 1) := by decide +kernel
theorem dX4_execute_150 : decode cX4_execute 150 = .ok (.aload_n 0, 1) := by decide +kernel
theorem dX4_execute_151 : decode cX4_execute 151 = .ok (.getfield 10, 3) := by decide +kernel
theorem dX4_execute_154 : decode cX4_execute 154 = .ok (.aload_n 0, 1) := by decide +kernel
theorem dX4_execute_155 : decode cX4_execute 155 = .ok (.getfield 26, 3) := by decide +kernel
theorem dX4_execute_158 : decode cX4_execute 158 = .ok (.getfield 201, 3) := by decide +kernel
theorem dX4_execute_161 : decode cX4_execute 161 = .ok (.invokevirtual 71, 3) := by decide +kernel
theorem dX4_execute_164 : decode cX4_execute 164 = .ok (.iconst 1, 1) := by decide +kernel
theorem dX4_execute_165 : decode cX4_execute 165 = .ok (.ireturn, 1) := by decide +kernel
theorem dX4_execute_166 : decode cX4_execute 166 = .ok (.aload_n 0, 1) := by decide +kernel
theorem dX4_execute_167 : decode cX4_execute 167 = .ok (.getfield 10, 3) := by decide +kernel
theorem dX4_execute_170 : decode cX4_execute 170 = .ok (.aload_n 0, 1) := by decide +kernel
theorem dX4_execute_171 : decode cX4_execute 171 = .ok (.getfield 10, 3) := by decide +kernel
theorem dX4_execute_174 : decode cX4_execute 174 = .ok (.getfield 93, 3) := by decide +kernel
theorem dX4_execute_177 : decode cX4_execute 177 = .ok (.ifCond .ne 7, 3) := by decide +kernel
theorem dX4_execute_180 : decode cX4_execute 180 = .ok (.iconst 1, 1) := by decide +kernel
theorem dX4_execute_181 : decode cX4_execute 181 = .ok (.goto 4, 3) := by decide +kernel
theorem dX4_execute_184 : decode cX4_execute 184 = .ok (.iconst 0, 1) := by decide +kernel
theorem dX4_execute_185 : decode cX4_execute 185 = .ok (.invokevirtual 89, 3) := by decide +kernel
theorem dX4_execute_188 : decode cX4_execute 188 = .ok (.pop, 1) := by decide +kernel
theorem dX4_execute_189 : decode cX4_execute 189 = .ok (.iconst 1, 1) := by decide +kernel
theorem dX4_execute_190 : decode cX4_execute 190 = .ok (.ireturn, 1) := by decide +kernel
theorem dX4_execute_191 : decode cX4_execute 191 = .ok (.aload_n 0, 1) := by decide +kernel
theorem dX4_execute_192 : decode cX4_execute 192 = .ok (.getfield 10, 3) := by decide +kernel
theorem dX4_execute_195 : decode cX4_execute 195 = .ok (.getfield 93, 3) := by decide +kernel
theorem dX4_execute_198 : decode cX4_execute 198 = .ok (.ifCond .ne 29, 3) := by decide +kernel
theorem dX4_execute_201 : decode cX4_execute 201 = .ok (.aload_n 0, 1) := by decide +kernel
theorem dX4_execute_202 : decode cX4_execute 202 = .ok (.getfield 10, 3) := by decide +kernel
theorem dX4_execute_205 : decode cX4_execute 205 = .ok (.aload_n 0, 1) := by decide +kernel
theorem dX4_execute_206 : decode cX4_execute 206 = .ok (.getfield 10, 3) := by decide +kernel
theorem dX4_execute_209 : decode cX4_execute 209 = .ok (.getfield 74, 3) := by decide +kernel
theorem dX4_execute_212 : decode cX4_execute 212 = .ok (.getfield 143, 3) := by decide +kernel
theorem dX4_execute_215 : decode cX4_execute 215 = .ok (.ifCond .ne 7, 3) := by decide +kernel
theorem dX4_execute_218 : decode cX4_execute 218 = .ok (.iconst 1, 1) := by decide +kernel
theorem dX4_execute_219 : decode cX4_execute 219 = .ok (.goto 4, 3) := by decide +kernel
theorem dX4_execute_222 : decode cX4_execute 222 = .ok (.iconst 0, 1) := by decide +kernel
theorem dX4_execute_223 : decode cX4_execute 223 = .ok (.invokevirtual 102, 3) := by decide +kernel
theorem dX4_execute_226 : decode cX4_execute 226 = .ok (.pop, 1) := by decide +kernel
theorem dX4_execute_227 : decode cX4_execute 227 = .ok (.aload_n 0, 1) := by decide +kernel
theorem dX4_execute_228 : decode cX4_execute 228 = .ok (.getfield 10, 3) := by decide +kernel
theorem dX4_execute_231 : decode cX4_execute 231 = .ok (.getfield 93, 3) := by decide +kernel
theorem dX4_execute_234 : decode cX4_execute 234 = .ok (.ifCond .ne 7, 3) := by decide +kernel
theorem dX4_execute_237 : decode cX4_execute 237 = .ok (.iconst 1, 1) := by decide +kernel
theorem dX4_execute_238 : decode cX4_execute 238 = .ok (.goto 4, 3) := by decide +kernel
theorem dX4_execute_241 : decode cX4_execute 241 = .ok (.iconst 0, 1) := by decide +kernel
theorem dX4_execute_242 : decode cX4_execute 242 = .ok (.ireturn, 1) := by decide +kernel
theorem dX4_execute_243 : decode cX4_execute 243 = .ok (.iconst 0, 1) := by decide +kernel
theorem dX4_execute_244 : decode cX4_execute 244 = .ok (.ireturn, 1) := by decide +kernel
theorem dX4_readsToWrite_0 : decode cX4_readsToWrite 0 = .ok (.iload_n 0, 1) := by decide +kernel
theorem dX4_readsToWrite_1 : decode cX4_readsToWrite 1 = .ok (.iconst 2, 1) := by decide +kernel
theorem dX4_readsToWrite_2 : decode cX4_readsToWrite 2 = .ok (.if_icmp .gt 7, 3) := by decide +kernel
theorem dX4_readsToWrite_5 : decode cX4_readsToWrite 5 = .ok (.iconst 2, 1) := by decide +kernel
theorem dX4_readsToWrite_6 : decode cX4_readsToWrite 6 = .ok (.goto 6, 3) := by decide +kernel
theorem dX4_readsToWrite_9 : decode cX4_readsToWrite 9 = .ok (.iconst 4, 1) := by decide +kernel
theorem dX4_readsToWrite_10 : decode cX4_readsToWrite 10 = .ok (.iload_n 0, 1) := by decide +kernel
theorem dX4_readsToWrite_11 : decode cX4_readsToWrite 11 = .ok (.isub, 1) := by decide +kernel
theorem dX4_readsToWrite_12 : decode cX4_readsToWrite 12 = .ok (.ireturn, 1) := by decide +kernel
theorem dX4_writesToWrite_0 : decode cX4_writesToWrite 0 = .ok (.iload_n 0, 1) := by decide +kernel
theorem dX4_writesToWrite_1 : decode cX4_writesToWrite 1 = .ok (.iconst 1, 1) := by decide +kernel
theorem dX4_writesToWrite_2 : decode cX4_writesToWrite 2 = .ok (.iadd, 1) := by decide +kernel
theorem dX4_writesToWrite_3 : decode cX4_writesToWrite 3 = .ok (.ireturn, 1) := by decide +kernel
set_option maxRecDepth 20000 in
theorem ggX4_operationsToWrite_X4_readsToWrite : GoodIn wsX4_operationsToWrite wsX4_readsToWrite := goodIn_r _ [4] (by decide +kernel) (by decide +kernel)
set_option maxRecDepth 20000 in
theorem gX4_operationsToWrite_X4_readsToWrite : GoodIn wsX4_operationsToWrite (va_wsS RX4 207 yX4_readsToWrite wsX4_readsToWrite) := goodIn_app (goodIn_of _ (by decide +kernel)) ggX4_operationsToWrite_X4_readsToWrite
set_option maxRecDepth 20000 in
theorem ggX4_operationsToWrite_X4_writesToWrite : GoodIn wsX4_operationsToWrite wsX4_writesToWrite := goodIn_r _ [7] (by decide +kernel) (by decide +kernel)
set_option maxRecDepth 20000 in
theorem gX4_operationsToWrite_X4_writesToWrite : GoodIn wsX4_operationsToWrite (va_wsS RX4 210 yX4_writesToWrite wsX4_writesToWrite) := goodIn_app (goodIn_of _ (by decide +kernel)) ggX4_operationsToWrite_X4_writesToWrite
theorem dX4_operationsToWrite_0 : decode cX4_operationsToWrite 0 = .ok (.iload_n 0, 1) := by decide +kernel
theorem dX4_operationsToWrite_1 : decode cX4_operationsToWrite 1 = .ok (.ifCond .ne 7, 3) := by decide +kernel
theorem dX4_operationsToWrite_4 : decode cX4_operationsToWrite 4 = .ok (.iconst 0, 1) := by decide +kernel
theorem dX4_operationsToWrite_5 : decode cX4_operationsToWrite 5 = .ok (.goto 12, 3) := by decide +kernel
theorem dX4_operationsToWrite_8 : decode cX4_operationsToWrite 8 = .ok (.iload_n 0, 1) := by decide +kernel
theorem dX4_operationsToWrite_9 : decode cX4_operationsToWrite 9 = .ok (.invokestatic 207, 3) := by decide +kernel
theorem dX4_operationsToWrite_12 : decode cX4_operationsToWrite 12 = .ok (.iload_n 0, 1) := by decide +kernel
theorem dX4_operationsToWrite_13 : decode cX4_operationsToWrite 13 = .ok (.invokestatic 210, 3) := by decide +kernel
theorem dX4_operationsToWrite_16 : decode cX4_operationsToWrite 16 = .ok (.iadd, 1) := by decide +kernel
theorem dX4_operationsToWrite_17 : decode cX4_operationsToWrite 17 = .ok (.ireturn, 1) := by decide +kernel
theorem dX5_init_0 : decode cX5_init 0 = .ok (.aload_n 0, 1) := by decide +kernel
theorem dX5_init_1 : decode cX5_init 1 = .ok (.invokespecial 1, 3) := by decide +kernel
theorem dX5_init_4 : decode cX5_init 4 = .ok (.aload_n 0, 1) := by decide +kernel
theorem dX5_init_5 : decode cX5_init 5 = .ok (.sipush 2317, 3) := by decide +kernel
theorem dX5_init_8 : decode cX5_init 8 = .ok (.newarray .int, 2) := by decide +kernel
theorem dX5_init_10 : decode cX5_init 10 = .ok (.putfield 7, 3) := by decide +kernel
theorem dX5_init_13 : decode cX5_init 13 = .ok (.aload_n 0, 1) := by decide +kernel
theorem dX5_init_14 : decode cX5_init 14 = .ok (.bipush 80, 2) := by decide +kernel
theorem dX5_init_16 : decode cX5_init 16 = .ok (.newarray .int, 2) := by decide +kernel
theorem dX5_init_18 : decode cX5_init 18 = .ok (.putfield 13, 3) := by decide +kernel
theorem dX5_init_21 : decode cX5_init 21 = .ok (.aload_n 0, 1) := by decide +kernel
theorem dX5_init_22 : decode cX5_init 22 = .ok (.getfield 7, 3) := by decide +kernel
theorem dX5_init_25 : decode cX5_init 25 = .ok (.iconst 0, 1) := by decide +kernel
theorem dX5_init_26 : decode cX5_init 26 = .ok (.iconst 1, 1) := by decide +kernel
theorem dX5_init_27 : decode cX5_init 27 = .ok (.iastore, 1) := by decide +kernel
theorem dX5_init_28 : decode cX5_init 28 = .ok (.aload_n 0, 1) := by decide +kernel
theorem dX5_init_29 : decode cX5_init 29 = .ok (.getfield 7, 3) := by decide +kernel
theorem dX5_init_32 : decode cX5_init 32 = .ok (.iconst 1, 1) := by decide +kernel
theorem dX5_init_33 : decode cX5_init 33 = .ok (.iconst 1, 1) := by decide +kernel
theorem dX5_init_34 : decode cX5_init 34 = .ok (.iastore, 1) := by decide +kernel
theorem dX5_init_35 : decode cX5_init 35 = .ok (.aload_n 0, 1) := by decide +kernel
theorem dX5_init_36 : decode cX5_init 36 = .ok (.getfield 7, 3) := by decide +kernel
theorem dX5_init_39 : decode cX5_init 39 = .ok (.iconst 2, 1) := by decide +kernel
theorem dX5_init_40 : decode cX5_init 40 = .ok (.bipush 100, 2) := by decide +kernel
theorem dX5_init_42 : decode cX5_init 42 = .ok (.iastore, 1) := by decide +kernel
theorem dX5_init_43 : decode cX5_init 43 = .ok (.aload_n 0, 1) := by decide +kernel
theorem dX5_init_44 : decode cX5_init 44 = .ok (.getfield 7, 3) := by decide +kernel
theorem dX5_init_47 : decode cX5_init 47 = .ok (.iconst 3, 1) := by decide +kernel
theorem dX5_init_48 : decode cX5_init 48 = .ok (.bipush 100, 2) := by decide +kernel
theorem dX5_init_50 : decode cX5_init 50 = .ok (.iastore, 1) := by decide +kernel
theorem dX5_init_51 : decode cX5_init 51 = .ok (.iconst 0, 1) := by decide +kernel
theorem dX5_init_52 : decode cX5_init 52 = .ok (.istore_n 1, 1) := by decide +kernel
theorem dX5_init_53 : decode cX5_init 53 = .ok (.iload_n 1, 1) := by decide +kernel
theorem dX5_init_54 : decode cX5_init 54 = .ok (.bipush 12, 2) := by decide +kernel
theorem dX5_init_56 : decode cX5_init 56 = .ok (.if_icmp .ge 22, 3) := by decide +kernel
theorem dX5_init_59 : decode cX5_init 59 = .ok (.aload_n 0, 1) := by decide +kernel
theorem dX5_init_60 : decode cX5_init 60 = .ok (.getfield 7, 3) := by decide +kernel
theorem dX5_init_63 : decode cX5_init 63 = .ok (.sipush 271, 3) := by decide +kernel
theorem dX5_init_66 : decode cX5_init 66 = .ok (.iconst 5, 1) := by decide +kernel
theorem dX5_init_67 : decode cX5_init 67 = .ok (.iload_n 1, 1) := by decide +kernel
theorem dX5_init_68 : decode cX5_init 68 = .ok (.imul, 1) := by decide +kernel
theorem dX5_init_69 : decode cX5_init 69 = .ok (.iadd, 1) := by decide +kernel
theorem dX5_init_70 : decode cX5_init 70 = .ok (.iconst (-1), 1) := by decide +kernel
theorem dX5_init_71 : decode cX5_init 71 = .ok (.iastore, 1) := by decide +kernel
theorem dX5_init_72 : decode cX5_init 72 = .ok (.iinc 1 1, 3) := by decide +kernel
theorem dX5_init_75 : decode cX5_init 75 = .ok (.goto (-22), 3) := by decide +kernel
theorem dX5_init_78 : decode cX5_init 78 = .ok (.return_, 1) := by decide +kernel
theorem dX5_thrown_0 : decode cX5_thrown 0 = .ok (.aload_n 0, 1) := by decide +kernel
theorem dX5_thrown_1 : decode cX5_thrown 1 = .ok (.getfield 16, 3) := by decide +kernel
theorem dX5_thrown_4 : decode cX5_thrown 4 = .ok (.ireturn, 1) := by decide +kernel
theorem dX5_in_0 : decode cX5_in 0 = .ok (.iload_n 0, 1) := by decide +kernel
theorem dX5_in_1 : decode cX5_in 1 = .ok (.iload_n 1, 1) := by decide +kernel
theorem dX5_in_2 : decode cX5_in 2 = .ok (.if_icmp .lt 12, 3) := by decide +kernel
theorem dX5_in_5 : decode cX5_in 5 = .ok (.iload_n 0, 1) := by decide +kernel
theorem dX5_in_6 : decode cX5_in 6 = .ok (.iload_n 2, 1) := by decide +kernel
theorem dX5_in_7 : decode cX5_in 7 = .ok (.if_icmp .gt 7, 3) := by decide +kernel
theorem dX5_in_10 : decode cX5_in 10 = .ok (.iconst 1, 1) := by decide +kernel
theorem dX5_in_11 : decode cX5_in 11 = .ok (.goto 4, 3) := by decide +kernel
theorem dX5_in_14 : decode cX5_in 14 = .ok (.iconst 0, 1) := by decide +kernel
theorem dX5_in_15 : decode cX5_in 15 = .ok (.ireturn, 1) := by decide +kernel
theorem dX5_holds_0 : decode cX5_holds 0 = .ok (.aload_n 0, 1) := by decide +kernel
theorem dX5_holds_1 : decode cX5_holds 1 = .ok (.iload_n 1, 1) := by decide +kernel
theorem dX5_holds_2 : decode cX5_holds 2 = .ok (.putfield 16, 3) := by decide +kernel
theorem dX5_holds_5 : decode cX5_holds 5 = .ok (.iload_n 1, 1) := by decide +kernel
theorem dX5_holds_6 : decode cX5_holds 6 = .ok (.ifCond .ne 7, 3) := by decide +kernel
theorem dX5_holds_9 : decode cX5_holds 9 = .ok (.iconst 1, 1) := by decide +kernel
theorem dX5_holds_10 : decode cX5_holds 10 = .ok (.goto 4, 3) := by decide +kernel
theorem dX5_holds_13 : decode cX5_holds 13 = .ok (.iconst 0, 1) := by decide +kernel
theorem dX5_holds_14 : decode cX5_holds 14 = .ok (.ireturn, 1) := by decide +kernel
theorem dX5_told_0 : decode cX5_told 0 = .ok (.aload_n 0, 1) := by decide +kernel
theorem dX5_told_1 : decode cX5_told 1 = .ok (.iconst 0, 1) := by decide +kernel
theorem dX5_told_2 : decode cX5_told 2 = .ok (.putfield 16, 3) := by decide +kernel
theorem dX5_told_5 : decode cX5_told 5 = .ok (.iload_n 1, 1) := by decide +kernel
theorem dX5_told_6 : decode cX5_told 6 = .ok (.ireturn, 1) := by decide +kernel
set_option maxRecDepth 20000 in
theorem ggX5_isBlock_X5_in : GoodIn wsX5_isBlock wsX5_in := goodIn_r _ [4] (by decide +kernel) (by decide +kernel)
set_option maxRecDepth 20000 in
theorem gX5_isBlock_X5_in : GoodIn wsX5_isBlock (va_wsS RX5 20 yX5_in wsX5_in) := goodIn_app (goodIn_of _ (by decide +kernel)) ggX5_isBlock_X5_in
theorem dX5_isBlock_0 : decode cX5_isBlock 0 = .ok (.iload_n 0, 1) := by decide +kernel
theorem dX5_isBlock_1 : decode cX5_isBlock 1 = .ok (.iconst 0, 1) := by decide +kernel
theorem dX5_isBlock_2 : decode cX5_isBlock 2 = .ok (.bipush 63, 2) := by decide +kernel
theorem dX5_isBlock_4 : decode cX5_isBlock 4 = .ok (.invokestatic 20, 3) := by decide +kernel
theorem dX5_isBlock_7 : decode cX5_isBlock 7 = .ok (.ireturn, 1) := by decide +kernel
set_option maxRecDepth 20000 in
theorem ggX5_isStripe_X5_in : GoodIn wsX5_isStripe wsX5_in := goodIn_r _ [4] (by decide +kernel) (by decide +kernel)
set_option maxRecDepth 20000 in
theorem gX5_isStripe_X5_in : GoodIn wsX5_isStripe (va_wsS RX5 20 yX5_in wsX5_in) := goodIn_app (goodIn_of _ (by decide +kernel)) ggX5_isStripe_X5_in
theorem dX5_isStripe_0 : decode cX5_isStripe 0 = .ok (.iload_n 0, 1) := by decide +kernel
theorem dX5_isStripe_1 : decode cX5_isStripe 1 = .ok (.iconst 0, 1) := by decide +kernel
theorem dX5_isStripe_2 : decode cX5_isStripe 2 = .ok (.bipush 15, 2) := by decide +kernel
theorem dX5_isStripe_4 : decode cX5_isStripe 4 = .ok (.invokestatic 20, 3) := by decide +kernel
theorem dX5_isStripe_7 : decode cX5_isStripe 7 = .ok (.ireturn, 1) := by decide +kernel
theorem dX5_of_0 : decode cX5_of 0 = .ok (.aload_n 0, 1) := by decide +kernel
theorem dX5_of_1 : decode cX5_of 1 = .ok (.getfield 7, 3) := by decide +kernel
theorem dX5_of_4 : decode cX5_of 4 = .ok (.sipush 271, 3) := by decide +kernel
theorem dX5_of_7 : decode cX5_of 7 = .ok (.iconst 5, 1) := by decide +kernel
theorem dX5_of_8 : decode cX5_of 8 = .ok (.iload_n 1, 1) := by decide +kernel
theorem dX5_of_9 : decode cX5_of 9 = .ok (.imul, 1) := by decide +kernel
theorem dX5_of_10 : decode cX5_of 10 = .ok (.iadd, 1) := by decide +kernel
theorem dX5_of_11 : decode cX5_of 11 = .ok (.iload_n 2, 1) := by decide +kernel
theorem dX5_of_12 : decode cX5_of 12 = .ok (.iadd, 1) := by decide +kernel
theorem dX5_of_13 : decode cX5_of 13 = .ok (.iaload, 1) := by decide +kernel
theorem dX5_of_14 : decode cX5_of 14 = .ok (.ireturn, 1) := by decide +kernel
theorem dX5_lay_0 : decode cX5_lay 0 = .ok (.aload_n 0, 1) := by decide +kernel
theorem dX5_lay_1 : decode cX5_lay 1 = .ok (.getfield 7, 3) := by decide +kernel
theorem dX5_lay_4 : decode cX5_lay 4 = .ok (.sipush 271, 3) := by decide +kernel
theorem dX5_lay_7 : decode cX5_lay 7 = .ok (.iconst 5, 1) := by decide +kernel
theorem dX5_lay_8 : decode cX5_lay 8 = .ok (.iload_n 1, 1) := by decide +kernel
theorem dX5_lay_9 : decode cX5_lay 9 = .ok (.imul, 1) := by decide +kernel
theorem dX5_lay_10 : decode cX5_lay 10 = .ok (.iadd, 1) := by decide +kernel
theorem dX5_lay_11 : decode cX5_lay 11 = .ok (.iload_n 2, 1) := by decide +kernel
theorem dX5_lay_12 : decode cX5_lay 12 = .ok (.iadd, 1) := by decide +kernel
theorem dX5_lay_13 : decode cX5_lay 13 = .ok (.iload_n 3, 1) := by decide +kernel
theorem dX5_lay_14 : decode cX5_lay 14 = .ok (.iastore, 1) := by decide +kernel
theorem dX5_lay_15 : decode cX5_lay 15 = .ok (.return_, 1) := by decide +kernel
set_option maxRecDepth 20000 in
theorem ggX5_isEmpty_X5_of : GoodIn wsX5_isEmpty wsX5_of := goodIn_r _ [5, 6, 7, 8, 9, 10, 11, 12, 13, 14, 15] (by decide +kernel) (by decide +kernel)
set_option maxRecDepth 20000 in
theorem gX5_isEmpty_X5_of : GoodIn wsX5_isEmpty (wsV RX5 24 RX5 yX5_of wsX5_of) := goodIn_app (goodIn_of _ (by decide +kernel)) ggX5_isEmpty_X5_of
theorem dX5_isEmpty_0 : decode cX5_isEmpty 0 = .ok (.aload_n 0, 1) := by decide +kernel
theorem dX5_isEmpty_1 : decode cX5_isEmpty 1 = .ok (.iload_n 1, 1) := by decide +kernel
theorem dX5_isEmpty_2 : decode cX5_isEmpty 2 = .ok (.iconst 0, 1) := by decide +kernel
theorem dX5_isEmpty_3 : decode cX5_isEmpty 3 = .ok (.invokevirtual 24, 3) := by decide +kernel
theorem dX5_isEmpty_6 : decode cX5_isEmpty 6 = .ok (.iconst (-1), 1) := by decide +kernel
theorem dX5_isEmpty_7 : decode cX5_isEmpty 7 = .ok (.if_icmp .ne 7, 3) := by decide +kernel
theorem dX5_isEmpty_10 : decode cX5_isEmpty 10 = .ok (.iconst 1, 1) := by decide +kernel
theorem dX5_isEmpty_11 : decode cX5_isEmpty 11 = .ok (.goto 4, 3) := by decide +kernel
theorem dX5_isEmpty_14 : decode cX5_isEmpty 14 = .ok (.iconst 0, 1) := by decide +kernel
theorem dX5_isEmpty_15 : decode cX5_isEmpty 15 = .ok (.ireturn, 1) := by decide +kernel
set_option maxRecDepth 20000 in
theorem ggX5_isDirtyOf_X5_isEmpty : GoodIn wsX5_isDirtyOf wsX5_isEmpty := goodIn_r _ [5, 6, 7, 8, 4, 9, 10, 11, 12, 13, 14, 15, 16, 17, 18, 19] (by decide +kernel) (by decide +kernel)
set_option maxRecDepth 20000 in
theorem gX5_isDirtyOf_X5_isEmpty : GoodIn wsX5_isDirtyOf (wsV RX5 28 RX5 yX5_isEmpty wsX5_isEmpty) := goodIn_app (goodIn_of _ (by decide +kernel)) ggX5_isDirtyOf_X5_isEmpty
set_option maxRecDepth 20000 in
theorem ggX5_isDirtyOf_X5_of : GoodIn wsX5_isDirtyOf wsX5_of := goodIn_r _ [9, 10, 11, 12, 13, 14, 15, 16, 17, 18, 19] (by decide +kernel) (by decide +kernel)
set_option maxRecDepth 20000 in
theorem gX5_isDirtyOf_X5_of : GoodIn wsX5_isDirtyOf (wsV RX5 24 RX5 yX5_of wsX5_of) := goodIn_app (goodIn_of _ (by decide +kernel)) ggX5_isDirtyOf_X5_of
theorem dX5_isDirtyOf_0 : decode cX5_isDirtyOf 0 = .ok (.aload_n 0, 1) := by decide +kernel
theorem dX5_isDirtyOf_1 : decode cX5_isDirtyOf 1 = .ok (.iload_n 1, 1) := by decide +kernel
theorem dX5_isDirtyOf_2 : decode cX5_isDirtyOf 2 = .ok (.invokevirtual 28, 3) := by decide +kernel
theorem dX5_isDirtyOf_5 : decode cX5_isDirtyOf 5 = .ok (.ifCond .ne 29, 3) := by decide +kernel
theorem dX5_isDirtyOf_8 : decode cX5_isDirtyOf 8 = .ok (.aload_n 0, 1) := by decide +kernel
theorem dX5_isDirtyOf_9 : decode cX5_isDirtyOf 9 = .ok (.iload_n 1, 1) := by decide +kernel
theorem dX5_isDirtyOf_10 : decode cX5_isDirtyOf 10 = .ok (.iconst 4, 1) := by decide +kernel
theorem dX5_isDirtyOf_11 : decode cX5_isDirtyOf 11 = .ok (.invokevirtual 24, 3) := by decide +kernel
theorem dX5_isDirtyOf_14 : decode cX5_isDirtyOf 14 = .ok (.iconst 1, 1) := by decide +kernel
theorem dX5_isDirtyOf_15 : decode cX5_isDirtyOf 15 = .ok (.if_icmp .ne 19, 3) := by decide +kernel
theorem dX5_isDirtyOf_18 : decode cX5_isDirtyOf 18 = .ok (.aload_n 0, 1) := by decide +kernel
theorem dX5_isDirtyOf_19 : decode cX5_isDirtyOf 19 = .ok (.iload_n 1, 1) := by decide +kernel
theorem dX5_isDirtyOf_20 : decode cX5_isDirtyOf 20 = .ok (.iconst 0, 1) := by decide +kernel
theorem dX5_isDirtyOf_21 : decode cX5_isDirtyOf 21 = .ok (.invokevirtual 24, 3) := by decide +kernel
theorem dX5_isDirtyOf_24 : decode cX5_isDirtyOf 24 = .ok (.iconst 4, 1) := by decide +kernel
theorem dX5_isDirtyOf_25 : decode cX5_isDirtyOf 25 = .ok (.idiv, 1) := by decide +kernel
theorem dX5_isDirtyOf_26 : decode cX5_isDirtyOf 26 = .ok (.iload_n 2, 1) := by decide +kernel
theorem dX5_isDirtyOf_27 : decode cX5_isDirtyOf 27 = .ok (.if_icmp .ne 7, 3) := by decide +kernel
theorem dX5_isDirtyOf_30 : decode cX5_isDirtyOf 30 = .ok (.iconst 1, 1) := by decide +kernel
theorem dX5_isDirtyOf_31 : decode cX5_isDirtyOf 31 = .ok (.goto 4, 3) := by decide +kernel
theorem dX5_isDirtyOf_34 : decode cX5_isDirtyOf 34 = .ok (.iconst 0, 1) := by decide +kernel
theorem dX5_isDirtyOf_35 : decode cX5_isDirtyOf 35 = .ok (.ireturn, 1) := by decide +kernel
set_option maxRecDepth 20000 in
theorem ggX5_lineOf_X5_of : GoodIn wsX5_lineOf wsX5_of := goodIn_r _ [5, 6, 7, 8, 9, 10, 11, 12, 13, 14, 15] (by decide +kernel) (by decide +kernel)
set_option maxRecDepth 20000 in
theorem gX5_lineOf_X5_of : GoodIn wsX5_lineOf (wsV RX5 24 RX5 yX5_of wsX5_of) := goodIn_app (goodIn_of _ (by decide +kernel)) ggX5_lineOf_X5_of
theorem dX5_lineOf_0 : decode cX5_lineOf 0 = .ok (.iconst 0, 1) := by decide +kernel
theorem dX5_lineOf_1 : decode cX5_lineOf 1 = .ok (.istore_n 2, 1) := by decide +kernel
theorem dX5_lineOf_2 : decode cX5_lineOf 2 = .ok (.iload_n 2, 1) := by decide +kernel
theorem dX5_lineOf_3 : decode cX5_lineOf 3 = .ok (.bipush 12, 2) := by decide +kernel
theorem dX5_lineOf_5 : decode cX5_lineOf 5 = .ok (.if_icmp .ge 21, 3) := by decide +kernel
theorem dX5_lineOf_8 : decode cX5_lineOf 8 = .ok (.aload_n 0, 1) := by decide +kernel
theorem dX5_lineOf_9 : decode cX5_lineOf 9 = .ok (.iload_n 2, 1) := by decide +kernel
theorem dX5_lineOf_10 : decode cX5_lineOf 10 = .ok (.iconst 0, 1) := by decide +kernel
theorem dX5_lineOf_11 : decode cX5_lineOf 11 = .ok (.invokevirtual 24, 3) := by decide +kernel
theorem dX5_lineOf_14 : decode cX5_lineOf 14 = .ok (.iload_n 1, 1) := by decide +kernel
theorem dX5_lineOf_15 : decode cX5_lineOf 15 = .ok (.if_icmp .ne 5, 3) := by decide +kernel
theorem dX5_lineOf_18 : decode cX5_lineOf 18 = .ok (.iload_n 2, 1) := by decide +kernel
theorem dX5_lineOf_19 : decode cX5_lineOf 19 = .ok (.ireturn, 1) := by decide +kernel
theorem dX5_lineOf_20 : decode cX5_lineOf 20 = .ok (.iinc 2 1, 3) := by decide +kernel
theorem dX5_lineOf_23 : decode cX5_lineOf 23 = .ok (.goto (-21), 3) := by decide +kernel
theorem dX5_lineOf_26 : decode cX5_lineOf 26 = .ok (.iconst (-1), 1) := by decide +kernel
theorem dX5_lineOf_27 : decode cX5_lineOf 27 = .ok (.ireturn, 1) := by decide +kernel
set_option maxRecDepth 20000 in
theorem ggX5_dirtyIn_X5_isDirtyOf : GoodIn wsX5_dirtyIn wsX5_isDirtyOf := goodIn_r _ [5, 6, 7, 8, 4, 9, 10, 11, 12, 13, 14, 15, 16, 17, 18, 19, 20, 21, 22, 23] (by decide +kernel) (by decide +kernel)
set_option maxRecDepth 20000 in
theorem gX5_dirtyIn_X5_isDirtyOf : GoodIn wsX5_dirtyIn (wsV RX5 32 RX5 yX5_isDirtyOf wsX5_isDirtyOf) := goodIn_app (goodIn_of _ (by decide +kernel)) ggX5_dirtyIn_X5_isDirtyOf
theorem dX5_dirtyIn_0 : decode cX5_dirtyIn 0 = .ok (.iconst 0, 1) := by decide +kernel
theorem dX5_dirtyIn_1 : decode cX5_dirtyIn 1 = .ok (.istore_n 2, 1) := by decide +kernel
theorem dX5_dirtyIn_2 : decode cX5_dirtyIn 2 = .ok (.iconst 0, 1) := by decide +kernel
theorem dX5_dirtyIn_3 : decode cX5_dirtyIn 3 = .ok (.istore_n 3, 1) := by decide +kernel
theorem dX5_dirtyIn_4 : decode cX5_dirtyIn 4 = .ok (.iload_n 3, 1) := by decide +kernel
theorem dX5_dirtyIn_5 : decode cX5_dirtyIn 5 = .ok (.bipush 12, 2) := by decide +kernel
theorem dX5_dirtyIn_7 : decode cX5_dirtyIn 7 = .ok (.if_icmp .ge 26, 3) := by decide +kernel
theorem dX5_dirtyIn_10 : decode cX5_dirtyIn 10 = .ok (.iload_n 2, 1) := by decide +kernel
theorem dX5_dirtyIn_11 : decode cX5_dirtyIn 11 = .ok (.aload_n 0, 1) := by decide +kernel
theorem dX5_dirtyIn_12 : decode cX5_dirtyIn 12 = .ok (.iload_n 3, 1) := by decide +kernel
theorem dX5_dirtyIn_13 : decode cX5_dirtyIn 13 = .ok (.iload_n 1, 1) := by decide +kernel
theorem dX5_dirtyIn_14 : decode cX5_dirtyIn 14 = .ok (.invokevirtual 32, 3) := by decide +kernel
theorem dX5_dirtyIn_17 : decode cX5_dirtyIn 17 = .ok (.ifCond .eq 7, 3) := by decide +kernel
theorem dX5_dirtyIn_20 : decode cX5_dirtyIn 20 = .ok (.iconst 1, 1) := by decide +kernel
theorem dX5_dirtyIn_21 : decode cX5_dirtyIn 21 = .ok (.goto 4, 3) := by decide +kernel
theorem dX5_dirtyIn_24 : decode cX5_dirtyIn 24 = .ok (.iconst 0, 1) := by decide +kernel
theorem dX5_dirtyIn_25 : decode cX5_dirtyIn 25 = .ok (.iadd, 1) := by decide +kernel
theorem dX5_dirtyIn_26 : decode cX5_dirtyIn 26 = .ok (.istore_n 2, 1) := by decide +kernel
theorem dX5_dirtyIn_27 : decode cX5_dirtyIn 27 = .ok (.iinc 3 1, 3) := by decide +kernel
theorem dX5_dirtyIn_30 : decode cX5_dirtyIn 30 = .ok (.goto (-26), 3) := by decide +kernel
theorem dX5_dirtyIn_33 : decode cX5_dirtyIn 33 = .ok (.iload_n 2, 1) := by decide +kernel
theorem dX5_dirtyIn_34 : decode cX5_dirtyIn 34 = .ok (.ireturn, 1) := by decide +kernel
theorem dX5_readsFor_0 : decode cX5_readsFor 0 = .ok (.iload_n 0, 1) := by decide +kernel
theorem dX5_readsFor_1 : decode cX5_readsFor 1 = .ok (.iconst 4, 1) := by decide +kernel
theorem dX5_readsFor_2 : decode cX5_readsFor 2 = .ok (.if_icmp .ne 7, 3) := by decide +kernel
theorem dX5_readsFor_5 : decode cX5_readsFor 5 = .ok (.iconst 0, 1) := by decide +kernel
theorem dX5_readsFor_6 : decode cX5_readsFor 6 = .ok (.goto 13, 3) := by decide +kernel
theorem dX5_readsFor_9 : decode cX5_readsFor 9 = .ok (.iload_n 0, 1) := by decide +kernel
theorem dX5_readsFor_10 : decode cX5_readsFor 10 = .ok (.iconst 3, 1) := by decide +kernel
theorem dX5_readsFor_11 : decode cX5_readsFor 11 = .ok (.if_icmp .ne 7, 3) := by decide +kernel
theorem dX5_readsFor_14 : decode cX5_readsFor 14 = .ok (.iconst 1, 1) := by decide +kernel
theorem dX5_readsFor_15 : decode cX5_readsFor 15 = .ok (.goto 4, 3) := by decide +kernel
theorem dX5_readsFor_18 : decode cX5_readsFor 18 = .ok (.iconst 2, 1) := by decide +kernel
theorem dX5_readsFor_19 : decode cX5_readsFor 19 = .ok (.ireturn, 1) := by decide +kernel
set_option maxRecDepth 20000 in
theorem ggX5_cost_X5_readsFor : GoodIn wsX5_cost wsX5_readsFor := goodIn_r _ [4] (by decide +kernel) (by decide +kernel)
set_option maxRecDepth 20000 in
theorem gX5_cost_X5_readsFor : GoodIn wsX5_cost (va_wsS RX5 36 yX5_readsFor wsX5_readsFor) := goodIn_app (goodIn_of _ (by decide +kernel)) ggX5_cost_X5_readsFor
theorem dX5_cost_0 : decode cX5_cost 0 = .ok (.iload_n 0, 1) := by decide +kernel
theorem dX5_cost_1 : decode cX5_cost 1 = .ok (.ifCond .ne 7, 3) := by decide +kernel
theorem dX5_cost_4 : decode cX5_cost 4 = .ok (.iconst 0, 1) := by decide +kernel
theorem dX5_cost_5 : decode cX5_cost 5 = .ok (.goto 11, 3) := by decide +kernel
theorem dX5_cost_8 : decode cX5_cost 8 = .ok (.iload_n 0, 1) := by decide +kernel
theorem dX5_cost_9 : decode cX5_cost 9 = .ok (.invokestatic 36, 3) := by decide +kernel
theorem dX5_cost_12 : decode cX5_cost 12 = .ok (.iload_n 0, 1) := by decide +kernel
theorem dX5_cost_13 : decode cX5_cost 13 = .ok (.iadd, 1) := by decide +kernel
theorem dX5_cost_14 : decode cX5_cost 14 = .ok (.iconst 1, 1) := by decide +kernel
theorem dX5_cost_15 : decode cX5_cost 15 = .ok (.iadd, 1) := by decide +kernel
theorem dX5_cost_16 : decode cX5_cost 16 = .ok (.ireturn, 1) := by decide +kernel
set_option maxRecDepth 20000 in
theorem ggX5_countsWrite_X5_readsFor : GoodIn wsX5_countsWrite wsX5_readsFor := goodIn_r _ [5] (by decide +kernel) (by decide +kernel)
set_option maxRecDepth 20000 in
theorem gX5_countsWrite_X5_readsFor : GoodIn wsX5_countsWrite (va_wsS RX5 36 yX5_readsFor wsX5_readsFor) := goodIn_app (goodIn_of _ (by decide +kernel)) ggX5_countsWrite_X5_readsFor
theorem dX5_countsWrite_0 : decode cX5_countsWrite 0 = .ok (.aload_n 0, 1) := by decide +kernel
theorem dX5_countsWrite_1 : decode cX5_countsWrite 1 = .ok (.getfield 7, 3) := by decide +kernel
theorem dX5_countsWrite_4 : decode cX5_countsWrite 4 = .ok (.bipush 6, 2) := by decide +kernel
theorem dX5_countsWrite_6 : decode cX5_countsWrite 6 = .ok (.dup2, 1) := by decide +kernel
theorem dX5_countsWrite_7 : decode cX5_countsWrite 7 = .ok (.iaload, 1) := by decide +kernel
theorem dX5_countsWrite_8 : decode cX5_countsWrite 8 = .ok (.iload_n 1, 1) := by decide +kernel
theorem dX5_countsWrite_9 : decode cX5_countsWrite 9 = .ok (.invokestatic 36, 3) := by decide +kernel
theorem dX5_countsWrite_12 : decode cX5_countsWrite 12 = .ok (.iadd, 1) := by decide +kernel
theorem dX5_countsWrite_13 : decode cX5_countsWrite 13 = .ok (.iastore, 1) := by decide +kernel
theorem dX5_countsWrite_14 : decode cX5_countsWrite 14 = .ok (.aload_n 0, 1) := by decide +kernel
theorem dX5_countsWrite_15 : decode cX5_countsWrite 15 = .ok (.getfield 7, 3) := by decide +kernel
theorem dX5_countsWrite_18 : decode cX5_countsWrite 18 = .ok (.bipush 7, 2) := by decide +kernel
theorem dX5_countsWrite_20 : decode cX5_countsWrite 20 = .ok (.dup2, 1) := by decide +kernel
theorem dX5_countsWrite_21 : decode cX5_countsWrite 21 = .ok (.iaload, 1) := by decide +kernel
theorem dX5_countsWrite_22 : decode cX5_countsWrite 22 = .ok (.iload_n 1, 1) := by decide +kernel
theorem dX5_countsWrite_23 : decode cX5_countsWrite 23 = .ok (.iconst 1, 1) := by decide +kernel
theorem dX5_countsWrite_24 : decode cX5_countsWrite 24 = .ok (.iadd, 1) := by decide +kernel
theorem dX5_countsWrite_25 : decode cX5_countsWrite 25 = .ok (.iadd, 1) := by decide +kernel
theorem dX5_countsWrite_26 : decode cX5_countsWrite 26 = .ok (.iastore, 1) := by decide +kernel
theorem dX5_countsWrite_27 : decode cX5_countsWrite 27 = .ok (.return_, 1) := by decide +kernel
theorem dX5_toDisk_0 : decode cX5_toDisk 0 = .ok (.aload_n 0, 1) := by decide +kernel
theorem dX5_toDisk_1 : decode cX5_toDisk 1 = .ok (.getfield 7, 3) := by decide +kernel
theorem dX5_toDisk_4 : decode cX5_toDisk 4 = .ok (.bipush 15, 2) := by decide +kernel
theorem dX5_toDisk_6 : decode cX5_toDisk 6 = .ok (.iconst 2, 1) := by decide +kernel
theorem dX5_toDisk_7 : decode cX5_toDisk 7 = .ok (.iload_n 1, 1) := by decide +kernel
theorem dX5_toDisk_8 : decode cX5_toDisk 8 = .ok (.imul, 1) := by decide +kernel
theorem dX5_toDisk_9 : decode cX5_toDisk 9 = .ok (.iadd, 1) := by decide +kernel
theorem dX5_toDisk_10 : decode cX5_toDisk 10 = .ok (.iload_n 2, 1) := by decide +kernel
theorem dX5_toDisk_11 : decode cX5_toDisk 11 = .ok (.iastore, 1) := by decide +kernel
theorem dX5_toDisk_12 : decode cX5_toDisk 12 = .ok (.aload_n 0, 1) := by decide +kernel
theorem dX5_toDisk_13 : decode cX5_toDisk 13 = .ok (.getfield 7, 3) := by decide +kernel
theorem dX5_toDisk_16 : decode cX5_toDisk 16 = .ok (.bipush 15, 2) := by decide +kernel
theorem dX5_toDisk_18 : decode cX5_toDisk 18 = .ok (.iconst 2, 1) := by decide +kernel
theorem dX5_toDisk_19 : decode cX5_toDisk 19 = .ok (.iload_n 1, 1) := by decide +kernel
theorem dX5_toDisk_20 : decode cX5_toDisk 20 = .ok (.imul, 1) := by decide +kernel
theorem dX5_toDisk_21 : decode cX5_toDisk 21 = .ok (.iadd, 1) := by decide +kernel
theorem dX5_toDisk_22 : decode cX5_toDisk 22 = .ok (.iconst 1, 1) := by decide +kernel
theorem dX5_toDisk_23 : decode cX5_toDisk 23 = .ok (.iadd, 1) := by decide +kernel
theorem dX5_toDisk_24 : decode cX5_toDisk 24 = .ok (.iload_n 3, 1) := by decide +kernel
theorem dX5_toDisk_25 : decode cX5_toDisk 25 = .ok (.iastore, 1) := by decide +kernel
theorem dX5_toDisk_26 : decode cX5_toDisk 26 = .ok (.return_, 1) := by decide +kernel
set_option maxRecDepth 20000 in
theorem ggX5_destages_X5_isDirtyOf : GoodIn wsX5_destages wsX5_isDirtyOf := goodIn_r _ [6, 7, 8, 9, 5, 10, 11, 12, 13, 14, 1, 30, 31, 32, 33, 34, 35, 36, 37, 38] (by decide +kernel) (by decide +kernel)
set_option maxRecDepth 20000 in
theorem gX5_destages_X5_isDirtyOf : GoodIn wsX5_destages (wsV RX5 32 RX5 yX5_isDirtyOf wsX5_isDirtyOf) := goodIn_app (goodIn_of _ (by decide +kernel)) ggX5_destages_X5_isDirtyOf
set_option maxRecDepth 20000 in
theorem ggX5_destages_X5_of : GoodIn wsX5_destages wsX5_of := goodIn_r _ [14, 1, 30, 31, 32, 33, 34, 35, 36, 37, 38] (by decide +kernel) (by decide +kernel)
set_option maxRecDepth 20000 in
theorem gX5_destages_X5_of : GoodIn wsX5_destages (wsV RX5 24 RX5 yX5_of wsX5_of) := goodIn_app (goodIn_of _ (by decide +kernel)) ggX5_destages_X5_of
set_option maxRecDepth 20000 in
theorem ggX5_destages_X5_toDisk : GoodIn wsX5_destages wsX5_toDisk := goodIn_r _ [18, 1, 30, 31, 32, 33, 34, 35, 36, 37, 38] (by decide +kernel) (by decide +kernel)
set_option maxRecDepth 20000 in
theorem gX5_destages_X5_toDisk : GoodIn wsX5_destages (wsV RX5 40 RX5 yX5_toDisk wsX5_toDisk) := goodIn_app (goodIn_of _ (by decide +kernel)) ggX5_destages_X5_toDisk
set_option maxRecDepth 20000 in
theorem ggX5_destages_X5_lay : GoodIn wsX5_destages wsX5_lay := goodIn_r _ [22, 1, 30, 31, 32, 33, 34, 35, 36, 37, 38] (by decide +kernel) (by decide +kernel)
set_option maxRecDepth 20000 in
theorem gX5_destages_X5_lay : GoodIn wsX5_destages (wsV RX5 44 RX5 yX5_lay wsX5_lay) := goodIn_app (goodIn_of _ (by decide +kernel)) ggX5_destages_X5_lay
set_option maxRecDepth 20000 in
theorem ggX5_destages_X5_countsWrite : GoodIn wsX5_destages wsX5_countsWrite := goodIn_r _ [26, 1, 27, 28, 5, 29, 30, 31, 32, 33, 34, 35, 36, 37, 38] (by decide +kernel) (by decide +kernel)
set_option maxRecDepth 20000 in
theorem gX5_destages_X5_countsWrite : GoodIn wsX5_destages (wsV RX5 47 RX5 yX5_countsWrite wsX5_countsWrite) := goodIn_app (goodIn_of _ (by decide +kernel)) ggX5_destages_X5_countsWrite
theorem dX5_destages_0 : decode cX5_destages 0 = .ok (.iconst 0, 1) := by decide +kernel
theorem dX5_destages_1 : decode cX5_destages 1 = .ok (.istore_n 2, 1) := by decide +kernel
theorem dX5_destages_2 : decode cX5_destages 2 = .ok (.iconst 0, 1) := by decide +kernel
theorem dX5_destages_3 : decode cX5_destages 3 = .ok (.istore_n 3, 1) := by decide +kernel
theorem dX5_destages_4 : decode cX5_destages 4 = .ok (.iload_n 3, 1) := by decide +kernel
theorem dX5_destages_5 : decode cX5_destages 5 = .ok (.bipush 12, 2) := by decide +kernel
theorem dX5_destages_7 : decode cX5_destages 7 = .ok (.if_icmp .ge 50, 3) := by decide +kernel
theorem dX5_destages_10 : decode cX5_destages 10 = .ok (.aload_n 0, 1) := by decide +kernel
theorem dX5_destages_11 : decode cX5_destages 11 = .ok (.iload_n 3, 1) := by decide +kernel
theorem dX5_destages_12 : decode cX5_destages 12 = .ok (.iload_n 1, 1) := by decide +kernel
theorem dX5_destages_13 : decode cX5_destages 13 = .ok (.invokevirtual 32, 3) := by decide +kernel
theorem dX5_destages_16 : decode cX5_destages 16 = .ok (.ifCond .eq 35, 3) := by decide +kernel
theorem dX5_destages_19 : decode cX5_destages 19 = .ok (.aload_n 0, 1) := by decide +kernel
theorem dX5_destages_20 : decode cX5_destages 20 = .ok (.aload_n 0, 1) := by decide +kernel
theorem dX5_destages_21 : decode cX5_destages 21 = .ok (.iload_n 3, 1) := by decide +kernel
theorem dX5_destages_22 : decode cX5_destages 22 = .ok (.iconst 0, 1) := by decide +kernel
theorem dX5_destages_23 : decode cX5_destages 23 = .ok (.invokevirtual 24, 3) := by decide +kernel
theorem dX5_destages_26 : decode cX5_destages 26 = .ok (.aload_n 0, 1) := by decide +kernel
theorem dX5_destages_27 : decode cX5_destages 27 = .ok (.iload_n 3, 1) := by decide +kernel
theorem dX5_destages_28 : decode cX5_destages 28 = .ok (.iconst 1, 1) := by decide +kernel
theorem dX5_destages_29 : decode cX5_destages 29 = .ok (.invokevirtual 24, 3) := by decide +kernel
theorem dX5_destages_32 : decode cX5_destages 32 = .ok (.aload_n 0, 1) := by decide +kernel
theorem dX5_destages_33 : decode cX5_destages 33 = .ok (.iload_n 3, 1) := by decide +kernel
theorem dX5_destages_34 : decode cX5_destages 34 = .ok (.iconst 2, 1) := by decide +kernel
theorem dX5_destages_35 : decode cX5_destages 35 = .ok (.invokevirtual 24, 3) := by decide +kernel
theorem dX5_destages_38 : decode cX5_destages 38 = .ok (.invokevirtual 40, 3) := by decide +kernel
theorem dX5_destages_41 : decode cX5_destages 41 = .ok (.aload_n 0, 1) := by decide +kernel
theorem dX5_destages_42 : decode cX5_destages 42 = .ok (.iload_n 3, 1) := by decide +kernel
theorem dX5_destages_43 : decode cX5_destages 43 = .ok (.iconst 4, 1) := by decide +kernel
theorem dX5_destages_44 : decode cX5_destages 44 = .ok (.iconst 0, 1) := by decide +kernel
theorem dX5_destages_45 : decode cX5_destages 45 = .ok (.invokevirtual 44, 3) := by decide +kernel
theorem dX5_destages_48 : decode cX5_destages 48 = .ok (.iinc 2 1, 3) := by decide +kernel
theorem dX5_destages_51 : decode cX5_destages 51 = .ok (.iinc 3 1, 3) := by decide +kernel
theorem dX5_destages_54 : decode cX5_destages 54 = .ok (.goto (-50), 3) := by decide +kernel
theorem dX5_destages_57 : decode cX5_destages 57 = .ok (.iload_n 2, 1) := by decide +kernel
theorem dX5_destages_58 : decode cX5_destages 58 = .ok (.ifCond .le 30, 3) := by decide +kernel
theorem dX5_destages_61 : decode cX5_destages 61 = .ok (.aload_n 0, 1) := by decide +kernel
theorem dX5_destages_62 : decode cX5_destages 62 = .ok (.iload_n 2, 1) := by decide +kernel
theorem dX5_destages_63 : decode cX5_destages 63 = .ok (.invokevirtual 47, 3) := by decide +kernel
theorem dX5_destages_66 : decode cX5_destages 66 = .ok (.aload_n 0, 1) := by decide +kernel
theorem dX5_destages_67 : decode cX5_destages 67 = .ok (.getfield 7, 3) := by decide +kernel
theorem dX5_destages_70 : decode cX5_destages 70 = .ok (.bipush 13, 2) := by decide +kernel
theorem dX5_destages_72 : decode cX5_destages 72 = .ok (.dup2, 1) := by decide +kernel
theorem dX5_destages_73 : decode cX5_destages 73 = .ok (.iaload, 1) := by decide +kernel
theorem dX5_destages_74 : decode cX5_destages 74 = .ok (.iconst 1, 1) := by decide +kernel
theorem dX5_destages_75 : decode cX5_destages 75 = .ok (.iadd, 1) := by decide +kernel
theorem dX5_destages_76 : decode cX5_destages 76 = .ok (.iastore, 1) := by decide +kernel
theorem dX5_destages_77 : decode cX5_destages 77 = .ok (.aload_n 0, 1) := by decide +kernel
theorem dX5_destages_78 : decode cX5_destages 78 = .ok (.getfield 7, 3) := by decide +kernel
theorem dX5_destages_81 : decode cX5_destages 81 = .ok (.bipush 14, 2) := by decide +kernel
theorem dX5_destages_83 : decode cX5_destages 83 = .ok (.dup2, 1) := by decide +kernel
theorem dX5_destages_84 : decode cX5_destages 84 = .ok (.iaload, 1) := by decide +kernel
theorem dX5_destages_85 : decode cX5_destages 85 = .ok (.iload_n 2, 1) := by decide +kernel
theorem dX5_destages_86 : decode cX5_destages 86 = .ok (.iadd, 1) := by decide +kernel
theorem dX5_destages_87 : decode cX5_destages 87 = .ok (.iastore, 1) := by decide +kernel
theorem dX5_destages_88 : decode cX5_destages 88 = .ok (.iload_n 2, 1) := by decide +kernel
theorem dX5_destages_89 : decode cX5_destages 89 = .ok (.ireturn, 1) := by decide +kernel
set_option maxRecDepth 20000 in
theorem ggX5_destagesAll_X5_destages : GoodIn wsX5_destagesAll wsX5_destages := goodIn_r _ [5, 6, 7, 8, 9, 4, 10, 11, 12, 13, 14, 15, 16, 17, 18, 19, 20, 21, 22, 23, 24, 25, 26, 27, 28, 29, 30, 31, 32, 33, 34, 35, 36, 37, 38, 39, 40, 41, 42] (by decide +kernel) (by decide +kernel)
set_option maxRecDepth 20000 in
theorem gX5_destagesAll_X5_destages : GoodIn wsX5_destagesAll (wsV RX5 51 RX5 yX5_destages wsX5_destages) := goodIn_app (goodIn_of _ (by decide +kernel)) ggX5_destagesAll_X5_destages
theorem dX5_destagesAll_0 : decode cX5_destagesAll 0 = .ok (.iconst 0, 1) := by decide +kernel
theorem dX5_destagesAll_1 : decode cX5_destagesAll 1 = .ok (.istore_n 1, 1) := by decide +kernel
theorem dX5_destagesAll_2 : decode cX5_destagesAll 2 = .ok (.iconst 0, 1) := by decide +kernel
theorem dX5_destagesAll_3 : decode cX5_destagesAll 3 = .ok (.istore_n 2, 1) := by decide +kernel
theorem dX5_destagesAll_4 : decode cX5_destagesAll 4 = .ok (.iload_n 2, 1) := by decide +kernel
theorem dX5_destagesAll_5 : decode cX5_destagesAll 5 = .ok (.bipush 16, 2) := by decide +kernel
theorem dX5_destagesAll_7 : decode cX5_destagesAll 7 = .ok (.if_icmp .ge 17, 3) := by decide +kernel
theorem dX5_destagesAll_10 : decode cX5_destagesAll 10 = .ok (.iload_n 1, 1) := by decide +kernel
theorem dX5_destagesAll_11 : decode cX5_destagesAll 11 = .ok (.aload_n 0, 1) := by decide +kernel
theorem dX5_destagesAll_12 : decode cX5_destagesAll 12 = .ok (.iload_n 2, 1) := by decide +kernel
theorem dX5_destagesAll_13 : decode cX5_destagesAll 13 = .ok (.invokevirtual 51, 3) := by decide +kernel
theorem dX5_destagesAll_16 : decode cX5_destagesAll 16 = .ok (.iadd, 1) := by decide +kernel
theorem dX5_destagesAll_17 : decode cX5_destagesAll 17 = .ok (.istore_n 1, 1) := by decide +kernel
theorem dX5_destagesAll_18 : decode cX5_destagesAll 18 = .ok (.iinc 2 1, 3) := by decide +kernel
theorem dX5_destagesAll_21 : decode cX5_destagesAll 21 = .ok (.goto (-17), 3) := by decide +kernel
theorem dX5_destagesAll_24 : decode cX5_destagesAll 24 = .ok (.iload_n 1, 1) := by decide +kernel
theorem dX5_destagesAll_25 : decode cX5_destagesAll 25 = .ok (.ireturn, 1) := by decide +kernel
theorem dX5_isGathered_0 : decode cX5_isGathered 0 = .ok (.aload_n 0, 1) := by decide +kernel
theorem dX5_isGathered_1 : decode cX5_isGathered 1 = .ok (.getfield 7, 3) := by decide +kernel
theorem dX5_isGathered_4 : decode cX5_isGathered 4 = .ok (.iconst 0, 1) := by decide +kernel
theorem dX5_isGathered_5 : decode cX5_isGathered 5 = .ok (.iaload, 1) := by decide +kernel
theorem dX5_isGathered_6 : decode cX5_isGathered 6 = .ok (.iconst 1, 1) := by decide +kernel
theorem dX5_isGathered_7 : decode cX5_isGathered 7 = .ok (.if_icmp .ne 18, 3) := by decide +kernel
theorem dX5_isGathered_10 : decode cX5_isGathered 10 = .ok (.aload_n 0, 1) := by decide +kernel
theorem dX5_isGathered_11 : decode cX5_isGathered 11 = .ok (.getfield 7, 3) := by decide +kernel
theorem dX5_isGathered_14 : decode cX5_isGathered 14 = .ok (.iconst 3, 1) := by decide +kernel
theorem dX5_isGathered_15 : decode cX5_isGathered 15 = .ok (.iaload, 1) := by decide +kernel
theorem dX5_isGathered_16 : decode cX5_isGathered 16 = .ok (.bipush 20, 2) := by decide +kernel
theorem dX5_isGathered_18 : decode cX5_isGathered 18 = .ok (.if_icmp .lt 7, 3) := by decide +kernel
theorem dX5_isGathered_21 : decode cX5_isGathered 21 = .ok (.iconst 1, 1) := by decide +kernel
theorem dX5_isGathered_22 : decode cX5_isGathered 22 = .ok (.goto 4, 3) := by decide +kernel
theorem dX5_isGathered_25 : decode cX5_isGathered 25 = .ok (.iconst 0, 1) := by decide +kernel
theorem dX5_isGathered_26 : decode cX5_isGathered 26 = .ok (.ireturn, 1) := by decide +kernel
set_option maxRecDepth 20000 in
theorem ggX5_taken_X5_isEmpty : GoodIn wsX5_taken wsX5_isEmpty := goodIn_r _ [5, 6, 7, 8, 4, 9, 10, 11, 12, 13, 14, 15, 16, 17, 18, 19] (by decide +kernel) (by decide +kernel)
set_option maxRecDepth 20000 in
theorem gX5_taken_X5_isEmpty : GoodIn wsX5_taken (wsV RX5 28 RX5 yX5_isEmpty wsX5_isEmpty) := goodIn_app (goodIn_of _ (by decide +kernel)) ggX5_taken_X5_isEmpty
set_option maxRecDepth 20000 in
theorem ggX5_taken_X5_of : GoodIn wsX5_taken wsX5_of := goodIn_r _ [9, 10, 11, 12, 13, 14, 15, 16, 17, 18, 19] (by decide +kernel) (by decide +kernel)
set_option maxRecDepth 20000 in
theorem gX5_taken_X5_of : GoodIn wsX5_taken (wsV RX5 24 RX5 yX5_of wsX5_of) := goodIn_app (goodIn_of _ (by decide +kernel)) ggX5_taken_X5_of
theorem dX5_taken_0 : decode cX5_taken 0 = .ok (.iconst (-1), 1) := by decide +kernel
theorem dX5_taken_1 : decode cX5_taken 1 = .ok (.istore_n 2, 1) := by decide +kernel
theorem dX5_taken_2 : decode cX5_taken 2 = .ok (.iconst 3, 1) := by decide +kernel
theorem dX5_taken_3 : decode cX5_taken 3 = .ok (.iload_n 1, 1) := by decide +kernel
theorem dX5_taken_4 : decode cX5_taken 4 = .ok (.imul, 1) := by decide +kernel
theorem dX5_taken_5 : decode cX5_taken 5 = .ok (.istore_n 3, 1) := by decide +kernel
theorem dX5_taken_6 : decode cX5_taken 6 = .ok (.iload_n 3, 1) := by decide +kernel
theorem dX5_taken_7 : decode cX5_taken 7 = .ok (.iconst 3, 1) := by decide +kernel
theorem dX5_taken_8 : decode cX5_taken 8 = .ok (.iload_n 1, 1) := by decide +kernel
theorem dX5_taken_9 : decode cX5_taken 9 = .ok (.imul, 1) := by decide +kernel
theorem dX5_taken_10 : decode cX5_taken 10 = .ok (.iconst 3, 1) := by decide +kernel
theorem dX5_taken_11 : decode cX5_taken 11 = .ok (.iadd, 1) := by decide +kernel
theorem dX5_taken_12 : decode cX5_taken 12 = .ok (.if_icmp .ge 66, 3) := by decide +kernel
theorem dX5_taken_15 : decode cX5_taken 15 = .ok (.aload_n 0, 1) := by decide +kernel
theorem dX5_taken_16 : decode cX5_taken 16 = .ok (.iload_n 3, 1) := by decide +kernel
theorem dX5_taken_17 : decode cX5_taken 17 = .ok (.invokevirtual 28, 3) := by decide +kernel
theorem dX5_taken_20 : decode cX5_taken 20 = .ok (.ifCond .eq 5, 3) := by decide +kernel
theorem dX5_taken_23 : decode cX5_taken 23 = .ok (.iload_n 3, 1) := by decide +kernel
theorem dX5_taken_24 : decode cX5_taken 24 = .ok (.ireturn, 1) := by decide +kernel
theorem dX5_taken_25 : decode cX5_taken 25 = .ok (.aload_n 0, 1) := by decide +kernel
theorem dX5_taken_26 : decode cX5_taken 26 = .ok (.iload_n 3, 1) := by decide +kernel
theorem dX5_taken_27 : decode cX5_taken 27 = .ok (.iconst 4, 1) := by decide +kernel
theorem dX5_taken_28 : decode cX5_taken 28 = .ok (.invokevirtual 24, 3) := by decide +kernel
theorem dX5_taken_31 : decode cX5_taken 31 = .ok (.ifCond .ne 7, 3) := by decide +kernel
theorem dX5_taken_34 : decode cX5_taken 34 = .ok (.iconst 1, 1) := by decide +kernel
theorem dX5_taken_35 : decode cX5_taken 35 = .ok (.goto 4, 3) := by decide +kernel
theorem dX5_taken_38 : decode cX5_taken 38 = .ok (.iconst 0, 1) := by decide +kernel
theorem dX5_taken_39 : decode cX5_taken 39 = .ok (.istore 4, 2) := by decide +kernel
theorem dX5_taken_41 : decode cX5_taken 41 = .ok (.iload 4, 2) := by decide +kernel
theorem dX5_taken_43 : decode cX5_taken 43 = .ok (.ifCond .eq 27, 3) := by decide +kernel
theorem dX5_taken_46 : decode cX5_taken 46 = .ok (.iload_n 2, 1) := by decide +kernel
theorem dX5_taken_47 : decode cX5_taken 47 = .ok (.iconst (-1), 1) := by decide +kernel
theorem dX5_taken_48 : decode cX5_taken 48 = .ok (.if_icmp .eq 18, 3) := by decide +kernel
theorem dX5_taken_51 : decode cX5_taken 51 = .ok (.aload_n 0, 1) := by decide +kernel
theorem dX5_taken_52 : decode cX5_taken 52 = .ok (.iload_n 3, 1) := by decide +kernel
theorem dX5_taken_53 : decode cX5_taken 53 = .ok (.iconst 3, 1) := by decide +kernel
theorem dX5_taken_54 : decode cX5_taken 54 = .ok (.invokevirtual 24, 3) := by decide +kernel
theorem dX5_taken_57 : decode cX5_taken 57 = .ok (.aload_n 0, 1) := by decide +kernel
theorem dX5_taken_58 : decode cX5_taken 58 = .ok (.iload_n 2, 1) := by decide +kernel
theorem dX5_taken_59 : decode cX5_taken 59 = .ok (.iconst 3, 1) := by decide +kernel
theorem dX5_taken_60 : decode cX5_taken 60 = .ok (.invokevirtual 24, 3) := by decide +kernel
theorem dX5_taken_63 : decode cX5_taken 63 = .ok (.if_icmp .ge 7, 3) := by decide +kernel
theorem dX5_taken_66 : decode cX5_taken 66 = .ok (.iload_n 3, 1) := by decide +kernel
theorem dX5_taken_67 : decode cX5_taken 67 = .ok (.goto 4, 3) := by decide +kernel
theorem dX5_taken_70 : decode cX5_taken 70 = .ok (.iload_n 2, 1) := by decide +kernel
theorem dX5_taken_71 : decode cX5_taken 71 = .ok (.istore_n 2, 1) := by decide +kernel
theorem dX5_taken_72 : decode cX5_taken 72 = .ok (.iinc 3 1, 3) := by decide +kernel
theorem dX5_taken_75 : decode cX5_taken 75 = .ok (.goto (-69), 3) := by decide +kernel
theorem dX5_taken_78 : decode cX5_taken 78 = .ok (.iload_n 2, 1) := by decide +kernel
theorem dX5_taken_79 : decode cX5_taken 79 = .ok (.ireturn, 1) := by decide +kernel
set_option maxRecDepth 20000 in
theorem ggX5_fullest_X5_dirtyIn : GoodIn wsX5_fullest wsX5_dirtyIn := goodIn_r _ [5, 6, 7, 8, 4, 9, 10, 11, 12, 13, 14, 15, 16, 17, 18, 19, 20, 21, 22, 23, 24, 25, 26, 27] (by decide +kernel) (by decide +kernel)
set_option maxRecDepth 20000 in
theorem gX5_fullest_X5_dirtyIn : GoodIn wsX5_fullest (wsV RX5 54 RX5 yX5_dirtyIn wsX5_dirtyIn) := goodIn_app (goodIn_of _ (by decide +kernel)) ggX5_fullest_X5_dirtyIn
