theorem dX5_fullest_0 : decode cX5_fullest 0 = .ok (.iload_n 1, 1) := by decide +kernel
theorem dX5_fullest_1 : decode cX5_fullest 1 = .ok (.istore_n 2, 1) := by decide +kernel
theorem dX5_fullest_2 : decode cX5_fullest 2 = .ok (.iload_n 1, 1) := by decide +kernel
theorem dX5_fullest_3 : decode cX5_fullest 3 = .ok (.istore_n 3, 1) := by decide +kernel
theorem dX5_fullest_4 : decode cX5_fullest 4 = .ok (.iload_n 3, 1) := by decide +kernel
theorem dX5_fullest_5 : decode cX5_fullest 5 = .ok (.bipush 16, 2) := by decide +kernel
theorem dX5_fullest_7 : decode cX5_fullest 7 = .ok (.if_icmp .ge 28, 3) := by decide +kernel
theorem dX5_fullest_10 : decode cX5_fullest 10 = .ok (.aload_n 0, 1) := by decide +kernel
theorem dX5_fullest_11 : decode cX5_fullest 11 = .ok (.iload_n 3, 1) := by decide +kernel
theorem dX5_fullest_12 : decode cX5_fullest 12 = .ok (.invokevirtual 54, 3) := by decide +kernel
theorem dX5_fullest_15 : decode cX5_fullest 15 = .ok (.aload_n 0, 1) := by decide +kernel
theorem dX5_fullest_16 : decode cX5_fullest 16 = .ok (.iload_n 2, 1) := by decide +kernel
theorem dX5_fullest_17 : decode cX5_fullest 17 = .ok (.invokevirtual 54, 3) := by decide +kernel
theorem dX5_fullest_20 : decode cX5_fullest 20 = .ok (.if_icmp .le 7, 3) := by decide +kernel
theorem dX5_fullest_23 : decode cX5_fullest 23 = .ok (.iload_n 3, 1) := by decide +kernel
theorem dX5_fullest_24 : decode cX5_fullest 24 = .ok (.goto 4, 3) := by decide +kernel
theorem dX5_fullest_27 : decode cX5_fullest 27 = .ok (.iload_n 2, 1) := by decide +kernel
theorem dX5_fullest_28 : decode cX5_fullest 28 = .ok (.istore_n 2, 1) := by decide +kernel
theorem dX5_fullest_29 : decode cX5_fullest 29 = .ok (.iinc 3 4, 3) := by decide +kernel
theorem dX5_fullest_32 : decode cX5_fullest 32 = .ok (.goto (-28), 3) := by decide +kernel
theorem dX5_fullest_35 : decode cX5_fullest 35 = .ok (.iload_n 2, 1) := by decide +kernel
theorem dX5_fullest_36 : decode cX5_fullest 36 = .ok (.ireturn, 1) := by decide +kernel
set_option maxRecDepth 20000 in
theorem ggX5_puts_X5_lay : GoodIn wsX5_puts wsX5_lay := goodIn_r _ [6, 1, 7, 8, 9, 10, 11, 12, 13, 14, 15] (by decide +kernel) (by decide +kernel)
set_option maxRecDepth 20000 in
theorem gX5_puts_X5_lay : GoodIn wsX5_puts (wsV RX5 44 RX5 yX5_lay wsX5_lay) := goodIn_app (goodIn_of _ (by decide +kernel)) ggX5_puts_X5_lay
theorem dX5_puts_0 : decode cX5_puts 0 = .ok (.aload_n 0, 1) := by decide +kernel
theorem dX5_puts_1 : decode cX5_puts 1 = .ok (.getfield 7, 3) := by decide +kernel
theorem dX5_puts_4 : decode cX5_puts 4 = .ok (.iconst 5, 1) := by decide +kernel
theorem dX5_puts_5 : decode cX5_puts 5 = .ok (.dup2, 1) := by decide +kernel
theorem dX5_puts_6 : decode cX5_puts 6 = .ok (.iaload, 1) := by decide +kernel
theorem dX5_puts_7 : decode cX5_puts 7 = .ok (.iconst 1, 1) := by decide +kernel
theorem dX5_puts_8 : decode cX5_puts 8 = .ok (.iadd, 1) := by decide +kernel
theorem dX5_puts_9 : decode cX5_puts 9 = .ok (.iastore, 1) := by decide +kernel
theorem dX5_puts_10 : decode cX5_puts 10 = .ok (.aload_n 0, 1) := by decide +kernel
theorem dX5_puts_11 : decode cX5_puts 11 = .ok (.iload_n 1, 1) := by decide +kernel
theorem dX5_puts_12 : decode cX5_puts 12 = .ok (.iconst 0, 1) := by decide +kernel
theorem dX5_puts_13 : decode cX5_puts 13 = .ok (.iload_n 2, 1) := by decide +kernel
theorem dX5_puts_14 : decode cX5_puts 14 = .ok (.invokevirtual 44, 3) := by decide +kernel
theorem dX5_puts_17 : decode cX5_puts 17 = .ok (.aload_n 0, 1) := by decide +kernel
theorem dX5_puts_18 : decode cX5_puts 18 = .ok (.iload_n 1, 1) := by decide +kernel
theorem dX5_puts_19 : decode cX5_puts 19 = .ok (.iconst 1, 1) := by decide +kernel
theorem dX5_puts_20 : decode cX5_puts 20 = .ok (.iload_n 3, 1) := by decide +kernel
theorem dX5_puts_21 : decode cX5_puts 21 = .ok (.invokevirtual 44, 3) := by decide +kernel
theorem dX5_puts_24 : decode cX5_puts 24 = .ok (.aload_n 0, 1) := by decide +kernel
theorem dX5_puts_25 : decode cX5_puts 25 = .ok (.iload_n 1, 1) := by decide +kernel
theorem dX5_puts_26 : decode cX5_puts 26 = .ok (.iconst 2, 1) := by decide +kernel
theorem dX5_puts_27 : decode cX5_puts 27 = .ok (.aload_n 0, 1) := by decide +kernel
theorem dX5_puts_28 : decode cX5_puts 28 = .ok (.getfield 7, 3) := by decide +kernel
theorem dX5_puts_31 : decode cX5_puts 31 = .ok (.iconst 4, 1) := by decide +kernel
theorem dX5_puts_32 : decode cX5_puts 32 = .ok (.iaload, 1) := by decide +kernel
theorem dX5_puts_33 : decode cX5_puts 33 = .ok (.invokevirtual 44, 3) := by decide +kernel
theorem dX5_puts_36 : decode cX5_puts 36 = .ok (.aload_n 0, 1) := by decide +kernel
theorem dX5_puts_37 : decode cX5_puts 37 = .ok (.iload_n 1, 1) := by decide +kernel
theorem dX5_puts_38 : decode cX5_puts 38 = .ok (.iconst 3, 1) := by decide +kernel
theorem dX5_puts_39 : decode cX5_puts 39 = .ok (.aload_n 0, 1) := by decide +kernel
theorem dX5_puts_40 : decode cX5_puts 40 = .ok (.getfield 7, 3) := by decide +kernel
theorem dX5_puts_43 : decode cX5_puts 43 = .ok (.iconst 5, 1) := by decide +kernel
theorem dX5_puts_44 : decode cX5_puts 44 = .ok (.iaload, 1) := by decide +kernel
theorem dX5_puts_45 : decode cX5_puts 45 = .ok (.invokevirtual 44, 3) := by decide +kernel
theorem dX5_puts_48 : decode cX5_puts 48 = .ok (.aload_n 0, 1) := by decide +kernel
theorem dX5_puts_49 : decode cX5_puts 49 = .ok (.iload_n 1, 1) := by decide +kernel
theorem dX5_puts_50 : decode cX5_puts 50 = .ok (.iconst 4, 1) := by decide +kernel
theorem dX5_puts_51 : decode cX5_puts 51 = .ok (.iload 4, 2) := by decide +kernel
theorem dX5_puts_53 : decode cX5_puts 53 = .ok (.invokevirtual 44, 3) := by decide +kernel
theorem dX5_puts_56 : decode cX5_puts 56 = .ok (.return_, 1) := by decide +kernel
theorem dX5_operations_0 : decode cX5_operations 0 = .ok (.aload_n 0, 1) := by decide +kernel
theorem dX5_operations_1 : decode cX5_operations 1 = .ok (.getfield 7, 3) := by decide +kernel
theorem dX5_operations_4 : decode cX5_operations 4 = .ok (.bipush 6, 2) := by decide +kernel
theorem dX5_operations_6 : decode cX5_operations 6 = .ok (.iaload, 1) := by decide +kernel
theorem dX5_operations_7 : decode cX5_operations 7 = .ok (.aload_n 0, 1) := by decide +kernel
theorem dX5_operations_8 : decode cX5_operations 8 = .ok (.getfield 7, 3) := by decide +kernel
theorem dX5_operations_11 : decode cX5_operations 11 = .ok (.bipush 7, 2) := by decide +kernel
theorem dX5_operations_13 : decode cX5_operations 13 = .ok (.iaload, 1) := by decide +kernel
theorem dX5_operations_14 : decode cX5_operations 14 = .ok (.iadd, 1) := by decide +kernel
theorem dX5_operations_15 : decode cX5_operations 15 = .ok (.ireturn, 1) := by decide +kernel
set_option maxRecDepth 20000 in
theorem ggX5_writes_X5_operations : GoodIn wsX5_writes wsX5_operations := goodIn_r _ [6, 1, 62, 63, 64, 65, 66, 67, 68, 69, 70] (by decide +kernel) (by decide +kernel)
set_option maxRecDepth 20000 in
theorem gX5_writes_X5_operations : GoodIn wsX5_writes (wsV RX5 57 RX5 yX5_operations wsX5_operations) := goodIn_app (goodIn_of _ (by decide +kernel)) ggX5_writes_X5_operations
set_option maxRecDepth 20000 in
theorem ggX5_writes_X5_lineOf : GoodIn wsX5_writes wsX5_lineOf := goodIn_r _ [10, 11, 12, 13, 5, 14, 1, 62, 63, 64, 65, 66, 67, 68, 69, 70] (by decide +kernel) (by decide +kernel)
set_option maxRecDepth 20000 in
theorem gX5_writes_X5_lineOf : GoodIn wsX5_writes (wsV RX5 61 RX5 yX5_lineOf wsX5_lineOf) := goodIn_app (goodIn_of _ (by decide +kernel)) ggX5_writes_X5_lineOf
set_option maxRecDepth 20000 in
theorem ggX5_writes_X5_isGathered : GoodIn wsX5_writes wsX5_isGathered := goodIn_r _ [18, 1, 62, 63, 64, 65, 66, 67, 68, 69, 70] (by decide +kernel) (by decide +kernel)
set_option maxRecDepth 20000 in
theorem gX5_writes_X5_isGathered : GoodIn wsX5_writes (wsV RX5 64 RX5 yX5_isGathered wsX5_isGathered) := goodIn_app (goodIn_of _ (by decide +kernel)) ggX5_writes_X5_isGathered
set_option maxRecDepth 20000 in
theorem ggX5_writes_X5_taken : GoodIn wsX5_writes wsX5_taken := goodIn_r _ [22, 23, 24, 25, 5, 26, 11, 12, 13, 14, 1, 62, 63, 64, 65, 66, 67, 68, 69, 70] (by decide +kernel) (by decide +kernel)
set_option maxRecDepth 20000 in
theorem gX5_writes_X5_taken : GoodIn wsX5_writes (wsV RX5 68 RX5 yX5_taken wsX5_taken) := goodIn_app (goodIn_of _ (by decide +kernel)) ggX5_writes_X5_taken
set_option maxRecDepth 20000 in
theorem ggX5_writes_X5_fullest : GoodIn wsX5_writes wsX5_fullest := goodIn_r _ [30, 31, 32, 33, 5, 34, 35, 36, 37, 38, 23, 24, 25, 26, 11, 12, 13, 14, 1, 62, 63, 64, 65, 66, 67, 68, 69, 70] (by decide +kernel) (by decide +kernel)
set_option maxRecDepth 20000 in
theorem gX5_writes_X5_fullest : GoodIn wsX5_writes (wsV RX5 71 RX5 yX5_fullest wsX5_fullest) := goodIn_app (goodIn_of _ (by decide +kernel)) ggX5_writes_X5_fullest
set_option maxRecDepth 20000 in
theorem ggX5_writes_X5_destages : GoodIn wsX5_writes wsX5_destages := goodIn_r _ [42, 1, 35, 36, 37, 5, 38, 23, 24, 25, 26, 11, 12, 13, 14, 43, 44, 45, 46, 47, 48, 49, 50, 51, 52, 53, 54, 55, 56, 57, 62, 63, 64, 65, 66, 67, 68, 69, 70] (by decide +kernel) (by decide +kernel)
set_option maxRecDepth 20000 in
theorem gX5_writes_X5_destages : GoodIn wsX5_writes (wsV RX5 51 RX5 yX5_destages wsX5_destages) := goodIn_app (goodIn_of _ (by decide +kernel)) ggX5_writes_X5_destages
set_option maxRecDepth 20000 in
theorem ggX5_writes_X5_puts : GoodIn wsX5_writes wsX5_puts := goodIn_r _ [61, 1, 47, 48, 49, 5, 50, 62, 63, 64, 65, 66, 67, 68, 69, 70] (by decide +kernel) (by decide +kernel)
set_option maxRecDepth 20000 in
theorem gX5_writes_X5_puts : GoodIn wsX5_writes (wsV RX5 74 RX5 yX5_puts wsX5_puts) := goodIn_app (goodIn_of _ (by decide +kernel)) ggX5_writes_X5_puts
set_option maxRecDepth 20000 in
theorem ggX5_writes_X5_countsWrite : GoodIn wsX5_writes wsX5_countsWrite := goodIn_r _ [54, 1, 55, 56, 5, 57, 62, 63, 64, 65, 66, 67, 68, 69, 70] (by decide +kernel) (by decide +kernel)
set_option maxRecDepth 20000 in
theorem gX5_writes_X5_countsWrite : GoodIn wsX5_writes (wsV RX5 47 RX5 yX5_countsWrite wsX5_countsWrite) := goodIn_app (goodIn_of _ (by decide +kernel)) ggX5_writes_X5_countsWrite
set_option maxRecDepth 20000 in
theorem ggX5_writes_X5_toDisk : GoodIn wsX5_writes wsX5_toDisk := goodIn_r _ [46, 1, 62, 63, 64, 65, 66, 67, 68, 69, 70] (by decide +kernel) (by decide +kernel)
set_option maxRecDepth 20000 in
theorem gX5_writes_X5_toDisk : GoodIn wsX5_writes (wsV RX5 40 RX5 yX5_toDisk wsX5_toDisk) := goodIn_app (goodIn_of _ (by decide +kernel)) ggX5_writes_X5_toDisk
theorem dX5_writes_0 : decode cX5_writes 0 = .ok (.aload_n 0, 1) := by decide +kernel
theorem dX5_writes_1 : decode cX5_writes 1 = .ok (.invokevirtual 57, 3) := by decide +kernel
theorem dX5_writes_4 : decode cX5_writes 4 = .ok (.istore_n 3, 1) := by decide +kernel
theorem dX5_writes_5 : decode cX5_writes 5 = .ok (.aload_n 0, 1) := by decide +kernel
theorem dX5_writes_6 : decode cX5_writes 6 = .ok (.iload_n 1, 1) := by decide +kernel
theorem dX5_writes_7 : decode cX5_writes 7 = .ok (.invokevirtual 61, 3) := by decide +kernel
theorem dX5_writes_10 : decode cX5_writes 10 = .ok (.istore 4, 2) := by decide +kernel
theorem dX5_writes_12 : decode cX5_writes 12 = .ok (.aload_n 0, 1) := by decide +kernel
theorem dX5_writes_13 : decode cX5_writes 13 = .ok (.getfield 7, 3) := by decide +kernel
theorem dX5_writes_16 : decode cX5_writes 16 = .ok (.iconst 4, 1) := by decide +kernel
theorem dX5_writes_17 : decode cX5_writes 17 = .ok (.dup2, 1) := by decide +kernel
theorem dX5_writes_18 : decode cX5_writes 18 = .ok (.iaload, 1) := by decide +kernel
theorem dX5_writes_19 : decode cX5_writes 19 = .ok (.iconst 1, 1) := by decide +kernel
theorem dX5_writes_20 : decode cX5_writes 20 = .ok (.iadd, 1) := by decide +kernel
theorem dX5_writes_21 : decode cX5_writes 21 = .ok (.iastore, 1) := by decide +kernel
theorem dX5_writes_22 : decode cX5_writes 22 = .ok (.aload_n 0, 1) := by decide +kernel
theorem dX5_writes_23 : decode cX5_writes 23 = .ok (.getfield 7, 3) := by decide +kernel
theorem dX5_writes_26 : decode cX5_writes 26 = .ok (.sipush 143, 3) := by decide +kernel
theorem dX5_writes_29 : decode cX5_writes 29 = .ok (.iconst 2, 1) := by decide +kernel
theorem dX5_writes_30 : decode cX5_writes 30 = .ok (.iload_n 1, 1) := by decide +kernel
theorem dX5_writes_31 : decode cX5_writes 31 = .ok (.imul, 1) := by decide +kernel
theorem dX5_writes_32 : decode cX5_writes 32 = .ok (.iadd, 1) := by decide +kernel
theorem dX5_writes_33 : decode cX5_writes 33 = .ok (.iload_n 2, 1) := by decide +kernel
theorem dX5_writes_34 : decode cX5_writes 34 = .ok (.iastore, 1) := by decide +kernel
theorem dX5_writes_35 : decode cX5_writes 35 = .ok (.aload_n 0, 1) := by decide +kernel
theorem dX5_writes_36 : decode cX5_writes 36 = .ok (.getfield 7, 3) := by decide +kernel
theorem dX5_writes_39 : decode cX5_writes 39 = .ok (.sipush 143, 3) := by decide +kernel
theorem dX5_writes_42 : decode cX5_writes 42 = .ok (.iconst 2, 1) := by decide +kernel
theorem dX5_writes_43 : decode cX5_writes 43 = .ok (.iload_n 1, 1) := by decide +kernel
theorem dX5_writes_44 : decode cX5_writes 44 = .ok (.imul, 1) := by decide +kernel
theorem dX5_writes_45 : decode cX5_writes 45 = .ok (.iadd, 1) := by decide +kernel
theorem dX5_writes_46 : decode cX5_writes 46 = .ok (.iconst 1, 1) := by decide +kernel
theorem dX5_writes_47 : decode cX5_writes 47 = .ok (.iadd, 1) := by decide +kernel
theorem dX5_writes_48 : decode cX5_writes 48 = .ok (.aload_n 0, 1) := by decide +kernel
theorem dX5_writes_49 : decode cX5_writes 49 = .ok (.getfield 7, 3) := by decide +kernel
theorem dX5_writes_52 : decode cX5_writes 52 = .ok (.iconst 4, 1) := by decide +kernel
theorem dX5_writes_53 : decode cX5_writes 53 = .ok (.iaload, 1) := by decide +kernel
theorem dX5_writes_54 : decode cX5_writes 54 = .ok (.iastore, 1) := by decide +kernel
theorem dX5_writes_55 : decode cX5_writes 55 = .ok (.aload_n 0, 1) := by decide +kernel
theorem dX5_writes_56 : decode cX5_writes 56 = .ok (.invokevirtual 64, 3) := by decide +kernel
theorem dX5_writes_59 : decode cX5_writes 59 = .ok (.ifCond .eq 77, 3) := by decide +kernel
theorem dX5_writes_62 : decode cX5_writes 62 = .ok (.iload_n 1, 1) := by decide +kernel
theorem dX5_writes_63 : decode cX5_writes 63 = .ok (.iconst 4, 1) := by decide +kernel
theorem dX5_writes_64 : decode cX5_writes 64 = .ok (.idiv, 1) := by decide +kernel
theorem dX5_writes_65 : decode cX5_writes 65 = .ok (.iconst 4, 1) := by decide +kernel
theorem dX5_writes_66 : decode cX5_writes 66 = .ok (.irem, 1) := by decide +kernel
theorem dX5_writes_67 : decode cX5_writes 67 = .ok (.istore 5, 2) := by decide +kernel
theorem dX5_writes_69 : decode cX5_writes 69 = .ok (.iload 4, 2) := by decide +kernel
theorem dX5_writes_71 : decode cX5_writes 71 = .ok (.iconst (-1), 1) := by decide +kernel
theorem dX5_writes_72 : decode cX5_writes 72 = .ok (.if_icmp .ne 12, 3) := by decide +kernel
theorem dX5_writes_75 : decode cX5_writes 75 = .ok (.aload_n 0, 1) := by decide +kernel
theorem dX5_writes_76 : decode cX5_writes 76 = .ok (.iload 5, 2) := by decide +kernel
theorem dX5_writes_78 : decode cX5_writes 78 = .ok (.invokevirtual 68, 3) := by decide +kernel
theorem dX5_writes_81 : decode cX5_writes 81 = .ok (.goto 5, 3) := by decide +kernel
theorem dX5_writes_84 : decode cX5_writes 84 = .ok (.iload 4, 2) := by decide +kernel
theorem dX5_writes_86 : decode cX5_writes 86 = .ok (.istore 4, 2) := by decide +kernel
theorem dX5_writes_88 : decode cX5_writes 88 = .ok (.iload 4, 2) := by decide +kernel
theorem dX5_writes_90 : decode cX5_writes 90 = .ok (.iconst (-1), 1) := by decide +kernel
theorem dX5_writes_91 : decode cX5_writes 91 = .ok (.if_icmp .ne 22, 3) := by decide +kernel
theorem dX5_writes_94 : decode cX5_writes 94 = .ok (.aload_n 0, 1) := by decide +kernel
theorem dX5_writes_95 : decode cX5_writes 95 = .ok (.aload_n 0, 1) := by decide +kernel
theorem dX5_writes_96 : decode cX5_writes 96 = .ok (.iload 5, 2) := by decide +kernel
theorem dX5_writes_98 : decode cX5_writes 98 = .ok (.invokevirtual 71, 3) := by decide +kernel
theorem dX5_writes_101 : decode cX5_writes 101 = .ok (.invokevirtual 51, 3) := by decide +kernel
theorem dX5_writes_104 : decode cX5_writes 104 = .ok (.pop, 1) := by decide +kernel
theorem dX5_writes_105 : decode cX5_writes 105 = .ok (.aload_n 0, 1) := by decide +kernel
theorem dX5_writes_106 : decode cX5_writes 106 = .ok (.iload 5, 2) := by decide +kernel
theorem dX5_writes_108 : decode cX5_writes 108 = .ok (.invokevirtual 68, 3) := by decide +kernel
theorem dX5_writes_111 : decode cX5_writes 111 = .ok (.istore 4, 2) := by decide +kernel
theorem dX5_writes_113 : decode cX5_writes 113 = .ok (.aload_n 0, 1) := by decide +kernel
theorem dX5_writes_114 : decode cX5_writes 114 = .ok (.iload 4, 2) := by decide +kernel
theorem dX5_writes_116 : decode cX5_writes 116 = .ok (.iload_n 1, 1) := by decide +kernel
theorem dX5_writes_117 : decode cX5_writes 117 = .ok (.iload_n 2, 1) := by decide +kernel
theorem dX5_writes_118 : decode cX5_writes 118 = .ok (.iconst 1, 1) := by decide +kernel
theorem dX5_writes_119 : decode cX5_writes 119 = .ok (.invokevirtual 74, 3) := by decide +kernel
theorem dX5_writes_122 : decode cX5_writes 122 = .ok (.aload_n 0, 1) := by decide +kernel
theorem dX5_writes_123 : decode cX5_writes 123 = .ok (.getfield 7, 3) := by decide +kernel
theorem dX5_writes_126 : decode cX5_writes 126 = .ok (.bipush 8, 2) := by decide +kernel
theorem dX5_writes_128 : decode cX5_writes 128 = .ok (.dup2, 1) := by decide +kernel
theorem dX5_writes_129 : decode cX5_writes 129 = .ok (.iaload, 1) := by decide +kernel
theorem dX5_writes_130 : decode cX5_writes 130 = .ok (.iconst 1, 1) := by decide +kernel
theorem dX5_writes_131 : decode cX5_writes 131 = .ok (.iadd, 1) := by decide +kernel
theorem dX5_writes_132 : decode cX5_writes 132 = .ok (.iastore, 1) := by decide +kernel
theorem dX5_writes_133 : decode cX5_writes 133 = .ok (.goto 56, 3) := by decide +kernel
theorem dX5_writes_136 : decode cX5_writes 136 = .ok (.aload_n 0, 1) := by decide +kernel
theorem dX5_writes_137 : decode cX5_writes 137 = .ok (.iconst 1, 1) := by decide +kernel
theorem dX5_writes_138 : decode cX5_writes 138 = .ok (.invokevirtual 47, 3) := by decide +kernel
theorem dX5_writes_141 : decode cX5_writes 141 = .ok (.aload_n 0, 1) := by decide +kernel
theorem dX5_writes_142 : decode cX5_writes 142 = .ok (.iload_n 1, 1) := by decide +kernel
theorem dX5_writes_143 : decode cX5_writes 143 = .ok (.iload_n 2, 1) := by decide +kernel
theorem dX5_writes_144 : decode cX5_writes 144 = .ok (.aload_n 0, 1) := by decide +kernel
theorem dX5_writes_145 : decode cX5_writes 145 = .ok (.getfield 7, 3) := by decide +kernel
theorem dX5_writes_148 : decode cX5_writes 148 = .ok (.iconst 4, 1) := by decide +kernel
theorem dX5_writes_149 : decode cX5_writes 149 = .ok (.iaload, 1) := by decide +kernel
theorem dX5_writes_150 : decode cX5_writes 150 = .ok (.invokevirtual 40, 3) := by decide +kernel
theorem dX5_writes_153 : decode cX5_writes 153 = .ok (.aload_n 0, 1) := by decide +kernel
theorem dX5_writes_154 : decode cX5_writes 154 = .ok (.getfield 7, 3) := by decide +kernel
theorem dX5_writes_157 : decode cX5_writes 157 = .ok (.iconst 0, 1) := by decide +kernel
theorem dX5_writes_158 : decode cX5_writes 158 = .ok (.iaload, 1) := by decide +kernel
theorem dX5_writes_159 : decode cX5_writes 159 = .ok (.iconst 1, 1) := by decide +kernel
theorem dX5_writes_160 : decode cX5_writes 160 = .ok (.if_icmp .ne 18, 3) := by decide +kernel
theorem dX5_writes_163 : decode cX5_writes 163 = .ok (.iload 4, 2) := by decide +kernel
theorem dX5_writes_165 : decode cX5_writes 165 = .ok (.iconst (-1), 1) := by decide +kernel
theorem dX5_writes_166 : decode cX5_writes 166 = .ok (.if_icmp .eq 12, 3) := by decide +kernel
theorem dX5_writes_169 : decode cX5_writes 169 = .ok (.aload_n 0, 1) := by decide +kernel
theorem dX5_writes_170 : decode cX5_writes 170 = .ok (.iload 4, 2) := by decide +kernel
theorem dX5_writes_172 : decode cX5_writes 172 = .ok (.iload_n 1, 1) := by decide +kernel
theorem dX5_writes_173 : decode cX5_writes 173 = .ok (.iload_n 2, 1) := by decide +kernel
theorem dX5_writes_174 : decode cX5_writes 174 = .ok (.iconst 0, 1) := by decide +kernel
theorem dX5_writes_175 : decode cX5_writes 175 = .ok (.invokevirtual 74, 3) := by decide +kernel
theorem dX5_writes_178 : decode cX5_writes 178 = .ok (.aload_n 0, 1) := by decide +kernel
theorem dX5_writes_179 : decode cX5_writes 179 = .ok (.getfield 7, 3) := by decide +kernel
theorem dX5_writes_182 : decode cX5_writes 182 = .ok (.bipush 9, 2) := by decide +kernel
theorem dX5_writes_184 : decode cX5_writes 184 = .ok (.dup2, 1) := by decide +kernel
theorem dX5_writes_185 : decode cX5_writes 185 = .ok (.iaload, 1) := by decide +kernel
theorem dX5_writes_186 : decode cX5_writes 186 = .ok (.iconst 1, 1) := by decide +kernel
theorem dX5_writes_187 : decode cX5_writes 187 = .ok (.iadd, 1) := by decide +kernel
theorem dX5_writes_188 : decode cX5_writes 188 = .ok (.iastore, 1) := by decide +kernel
theorem dX5_writes_189 : decode cX5_writes 189 = .ok (.aload_n 0, 1) := by decide +kernel
theorem dX5_writes_190 : decode cX5_writes 190 = .ok (.invokevirtual 57, 3) := by decide +kernel
theorem dX5_writes_193 : decode cX5_writes 193 = .ok (.iload_n 3, 1) := by decide +kernel
theorem dX5_writes_194 : decode cX5_writes 194 = .ok (.isub, 1) := by decide +kernel
theorem dX5_writes_195 : decode cX5_writes 195 = .ok (.ireturn, 1) := by decide +kernel
set_option maxRecDepth 20000 in
theorem ggX5_reads_X5_lineOf : GoodIn wsX5_reads wsX5_lineOf := goodIn_r _ [6, 7, 8, 9, 5, 10, 1, 15, 16, 17, 18, 19, 20, 21, 22, 23] (by decide +kernel) (by decide +kernel)
set_option maxRecDepth 20000 in
theorem gX5_reads_X5_lineOf : GoodIn wsX5_reads (wsV RX5 61 RX5 yX5_lineOf wsX5_lineOf) := goodIn_app (goodIn_of _ (by decide +kernel)) ggX5_reads_X5_lineOf
set_option maxRecDepth 20000 in
theorem ggX5_reads_X5_lay : GoodIn wsX5_reads wsX5_lay := goodIn_r _ [14, 1, 15, 16, 17, 18, 19, 20, 21, 22, 23] (by decide +kernel) (by decide +kernel)
set_option maxRecDepth 20000 in
theorem gX5_reads_X5_lay : GoodIn wsX5_reads (wsV RX5 44 RX5 yX5_lay wsX5_lay) := goodIn_app (goodIn_of _ (by decide +kernel)) ggX5_reads_X5_lay
set_option maxRecDepth 20000 in
theorem ggX5_reads_X5_of : GoodIn wsX5_reads wsX5_of := goodIn_r _ [10, 1, 15, 16, 17, 18, 19, 20, 21, 22, 23] (by decide +kernel) (by decide +kernel)
set_option maxRecDepth 20000 in
theorem gX5_reads_X5_of : GoodIn wsX5_reads (wsV RX5 24 RX5 yX5_of wsX5_of) := goodIn_app (goodIn_of _ (by decide +kernel)) ggX5_reads_X5_of
theorem dX5_reads_0 : decode cX5_reads 0 = .ok (.aload_n 0, 1) := by decide +kernel
theorem dX5_reads_1 : decode cX5_reads 1 = .ok (.getfield 7, 3) := by decide +kernel
theorem dX5_reads_4 : decode cX5_reads 4 = .ok (.iconst 0, 1) := by decide +kernel
theorem dX5_reads_5 : decode cX5_reads 5 = .ok (.iaload, 1) := by decide +kernel
theorem dX5_reads_6 : decode cX5_reads 6 = .ok (.iconst 1, 1) := by decide +kernel
theorem dX5_reads_7 : decode cX5_reads 7 = .ok (.if_icmp .ne 11, 3) := by decide +kernel
theorem dX5_reads_10 : decode cX5_reads 10 = .ok (.aload_n 0, 1) := by decide +kernel
theorem dX5_reads_11 : decode cX5_reads 11 = .ok (.iload_n 1, 1) := by decide +kernel
theorem dX5_reads_12 : decode cX5_reads 12 = .ok (.invokevirtual 61, 3) := by decide +kernel
theorem dX5_reads_15 : decode cX5_reads 15 = .ok (.goto 4, 3) := by decide +kernel
theorem dX5_reads_18 : decode cX5_reads 18 = .ok (.iconst (-1), 1) := by decide +kernel
theorem dX5_reads_19 : decode cX5_reads 19 = .ok (.istore_n 2, 1) := by decide +kernel
theorem dX5_reads_20 : decode cX5_reads 20 = .ok (.iload_n 2, 1) := by decide +kernel
theorem dX5_reads_21 : decode cX5_reads 21 = .ok (.iconst (-1), 1) := by decide +kernel
theorem dX5_reads_22 : decode cX5_reads 22 = .ok (.if_icmp .ne 37, 3) := by decide +kernel
theorem dX5_reads_25 : decode cX5_reads 25 = .ok (.aload_n 0, 1) := by decide +kernel
theorem dX5_reads_26 : decode cX5_reads 26 = .ok (.getfield 7, 3) := by decide +kernel
theorem dX5_reads_29 : decode cX5_reads 29 = .ok (.bipush 6, 2) := by decide +kernel
theorem dX5_reads_31 : decode cX5_reads 31 = .ok (.dup2, 1) := by decide +kernel
theorem dX5_reads_32 : decode cX5_reads 32 = .ok (.iaload, 1) := by decide +kernel
theorem dX5_reads_33 : decode cX5_reads 33 = .ok (.iconst 1, 1) := by decide +kernel
theorem dX5_reads_34 : decode cX5_reads 34 = .ok (.iadd, 1) := by decide +kernel
theorem dX5_reads_35 : decode cX5_reads 35 = .ok (.iastore, 1) := by decide +kernel
theorem dX5_reads_36 : decode cX5_reads 36 = .ok (.aload_n 0, 1) := by decide +kernel
theorem dX5_reads_37 : decode cX5_reads 37 = .ok (.getfield 7, 3) := by decide +kernel
theorem dX5_reads_40 : decode cX5_reads 40 = .ok (.bipush 11, 2) := by decide +kernel
theorem dX5_reads_42 : decode cX5_reads 42 = .ok (.dup2, 1) := by decide +kernel
theorem dX5_reads_43 : decode cX5_reads 43 = .ok (.iaload, 1) := by decide +kernel
theorem dX5_reads_44 : decode cX5_reads 44 = .ok (.iconst 1, 1) := by decide +kernel
theorem dX5_reads_45 : decode cX5_reads 45 = .ok (.iadd, 1) := by decide +kernel
theorem dX5_reads_46 : decode cX5_reads 46 = .ok (.iastore, 1) := by decide +kernel
theorem dX5_reads_47 : decode cX5_reads 47 = .ok (.aload_n 0, 1) := by decide +kernel
theorem dX5_reads_48 : decode cX5_reads 48 = .ok (.getfield 7, 3) := by decide +kernel
theorem dX5_reads_51 : decode cX5_reads 51 = .ok (.bipush 15, 2) := by decide +kernel
theorem dX5_reads_53 : decode cX5_reads 53 = .ok (.iconst 2, 1) := by decide +kernel
theorem dX5_reads_54 : decode cX5_reads 54 = .ok (.iload_n 1, 1) := by decide +kernel
theorem dX5_reads_55 : decode cX5_reads 55 = .ok (.imul, 1) := by decide +kernel
theorem dX5_reads_56 : decode cX5_reads 56 = .ok (.iadd, 1) := by decide +kernel
theorem dX5_reads_57 : decode cX5_reads 57 = .ok (.iaload, 1) := by decide +kernel
theorem dX5_reads_58 : decode cX5_reads 58 = .ok (.ireturn, 1) := by decide +kernel
theorem dX5_reads_59 : decode cX5_reads 59 = .ok (.aload_n 0, 1) := by decide +kernel
theorem dX5_reads_60 : decode cX5_reads 60 = .ok (.getfield 7, 3) := by decide +kernel
theorem dX5_reads_63 : decode cX5_reads 63 = .ok (.iconst 5, 1) := by decide +kernel
theorem dX5_reads_64 : decode cX5_reads 64 = .ok (.dup2, 1) := by decide +kernel
theorem dX5_reads_65 : decode cX5_reads 65 = .ok (.iaload, 1) := by decide +kernel
theorem dX5_reads_66 : decode cX5_reads 66 = .ok (.iconst 1, 1) := by decide +kernel
theorem dX5_reads_67 : decode cX5_reads 67 = .ok (.iadd, 1) := by decide +kernel
theorem dX5_reads_68 : decode cX5_reads 68 = .ok (.iastore, 1) := by decide +kernel
theorem dX5_reads_69 : decode cX5_reads 69 = .ok (.aload_n 0, 1) := by decide +kernel
theorem dX5_reads_70 : decode cX5_reads 70 = .ok (.iload_n 2, 1) := by decide +kernel
theorem dX5_reads_71 : decode cX5_reads 71 = .ok (.iconst 3, 1) := by decide +kernel
theorem dX5_reads_72 : decode cX5_reads 72 = .ok (.aload_n 0, 1) := by decide +kernel
theorem dX5_reads_73 : decode cX5_reads 73 = .ok (.getfield 7, 3) := by decide +kernel
theorem dX5_reads_76 : decode cX5_reads 76 = .ok (.iconst 5, 1) := by decide +kernel
theorem dX5_reads_77 : decode cX5_reads 77 = .ok (.iaload, 1) := by decide +kernel
theorem dX5_reads_78 : decode cX5_reads 78 = .ok (.invokevirtual 44, 3) := by decide +kernel
theorem dX5_reads_81 : decode cX5_reads 81 = .ok (.aload_n 0, 1) := by decide +kernel
theorem dX5_reads_82 : decode cX5_reads 82 = .ok (.getfield 7, 3) := by decide +kernel
theorem dX5_reads_85 : decode cX5_reads 85 = .ok (.bipush 10, 2) := by decide +kernel
theorem dX5_reads_87 : decode cX5_reads 87 = .ok (.dup2, 1) := by decide +kernel
theorem dX5_reads_88 : decode cX5_reads 88 = .ok (.iaload, 1) := by decide +kernel
theorem dX5_reads_89 : decode cX5_reads 89 = .ok (.iconst 1, 1) := by decide +kernel
theorem dX5_reads_90 : decode cX5_reads 90 = .ok (.iadd, 1) := by decide +kernel
theorem dX5_reads_91 : decode cX5_reads 91 = .ok (.iastore, 1) := by decide +kernel
theorem dX5_reads_92 : decode cX5_reads 92 = .ok (.aload_n 0, 1) := by decide +kernel
theorem dX5_reads_93 : decode cX5_reads 93 = .ok (.iload_n 2, 1) := by decide +kernel
theorem dX5_reads_94 : decode cX5_reads 94 = .ok (.iconst 1, 1) := by decide +kernel
theorem dX5_reads_95 : decode cX5_reads 95 = .ok (.invokevirtual 24, 3) := by decide +kernel
theorem dX5_reads_98 : decode cX5_reads 98 = .ok (.ireturn, 1) := by decide +kernel
theorem dX5_isCharging_0 : decode cX5_isCharging 0 = .ok (.aload_n 0, 1) := by decide +kernel
theorem dX5_isCharging_1 : decode cX5_isCharging 1 = .ok (.getfield 7, 3) := by decide +kernel
theorem dX5_isCharging_4 : decode cX5_isCharging 4 = .ok (.iconst 1, 1) := by decide +kernel
theorem dX5_isCharging_5 : decode cX5_isCharging 5 = .ok (.iaload, 1) := by decide +kernel
theorem dX5_isCharging_6 : decode cX5_isCharging 6 = .ok (.iconst 1, 1) := by decide +kernel
theorem dX5_isCharging_7 : decode cX5_isCharging 7 = .ok (.if_icmp .ne 17, 3) := by decide +kernel
theorem dX5_isCharging_10 : decode cX5_isCharging 10 = .ok (.aload_n 0, 1) := by decide +kernel
theorem dX5_isCharging_11 : decode cX5_isCharging 11 = .ok (.getfield 7, 3) := by decide +kernel
theorem dX5_isCharging_14 : decode cX5_isCharging 14 = .ok (.iconst 0, 1) := by decide +kernel
theorem dX5_isCharging_15 : decode cX5_isCharging 15 = .ok (.iaload, 1) := by decide +kernel
theorem dX5_isCharging_16 : decode cX5_isCharging 16 = .ok (.iconst 1, 1) := by decide +kernel
theorem dX5_isCharging_17 : decode cX5_isCharging 17 = .ok (.if_icmp .ne 7, 3) := by decide +kernel
theorem dX5_isCharging_20 : decode cX5_isCharging 20 = .ok (.iconst 1, 1) := by decide +kernel
theorem dX5_isCharging_21 : decode cX5_isCharging 21 = .ok (.goto 4, 3) := by decide +kernel
theorem dX5_isCharging_24 : decode cX5_isCharging 24 = .ok (.iconst 0, 1) := by decide +kernel
theorem dX5_isCharging_25 : decode cX5_isCharging 25 = .ok (.ireturn, 1) := by decide +kernel
set_option maxRecDepth 20000 in
theorem ggX5_loses_X5_isEmpty : GoodIn wsX5_loses wsX5_isEmpty := goodIn_r _ [6, 7, 8, 9, 5, 10, 1, 15, 16, 17, 18, 19, 20, 21, 22, 23] (by decide +kernel) (by decide +kernel)
set_option maxRecDepth 20000 in
theorem gX5_loses_X5_isEmpty : GoodIn wsX5_loses (wsV RX5 28 RX5 yX5_isEmpty wsX5_isEmpty) := goodIn_app (goodIn_of _ (by decide +kernel)) ggX5_loses_X5_isEmpty
set_option maxRecDepth 20000 in
theorem ggX5_loses_X5_of : GoodIn wsX5_loses wsX5_of := goodIn_r _ [10, 1, 15, 16, 17, 18, 19, 20, 21, 22, 23] (by decide +kernel) (by decide +kernel)
set_option maxRecDepth 20000 in
theorem gX5_loses_X5_of : GoodIn wsX5_loses (wsV RX5 24 RX5 yX5_of wsX5_of) := goodIn_app (goodIn_of _ (by decide +kernel)) ggX5_loses_X5_of
set_option maxRecDepth 20000 in
theorem ggX5_loses_X5_lay : GoodIn wsX5_loses wsX5_lay := goodIn_r _ [14, 1, 15, 16, 17, 18, 19, 20, 21, 22, 23] (by decide +kernel) (by decide +kernel)
set_option maxRecDepth 20000 in
theorem gX5_loses_X5_lay : GoodIn wsX5_loses (wsV RX5 44 RX5 yX5_lay wsX5_lay) := goodIn_app (goodIn_of _ (by decide +kernel)) ggX5_loses_X5_lay
theorem dX5_loses_0 : decode cX5_loses 0 = .ok (.iconst 0, 1) := by decide +kernel
theorem dX5_loses_1 : decode cX5_loses 1 = .ok (.istore_n 1, 1) := by decide +kernel
theorem dX5_loses_2 : decode cX5_loses 2 = .ok (.iload_n 1, 1) := by decide +kernel
theorem dX5_loses_3 : decode cX5_loses 3 = .ok (.bipush 12, 2) := by decide +kernel
theorem dX5_loses_5 : decode cX5_loses 5 = .ok (.if_icmp .ge 49, 3) := by decide +kernel
theorem dX5_loses_8 : decode cX5_loses 8 = .ok (.aload_n 0, 1) := by decide +kernel
theorem dX5_loses_9 : decode cX5_loses 9 = .ok (.getfield 7, 3) := by decide +kernel
theorem dX5_loses_12 : decode cX5_loses 12 = .ok (.bipush 12, 2) := by decide +kernel
theorem dX5_loses_14 : decode cX5_loses 14 = .ok (.dup2, 1) := by decide +kernel
theorem dX5_loses_15 : decode cX5_loses 15 = .ok (.iaload, 1) := by decide +kernel
theorem dX5_loses_16 : decode cX5_loses 16 = .ok (.aload_n 0, 1) := by decide +kernel
theorem dX5_loses_17 : decode cX5_loses 17 = .ok (.iload_n 1, 1) := by decide +kernel
theorem dX5_loses_18 : decode cX5_loses 18 = .ok (.invokevirtual 28, 3) := by decide +kernel
theorem dX5_loses_21 : decode cX5_loses 21 = .ok (.ifCond .ne 17, 3) := by decide +kernel
theorem dX5_loses_24 : decode cX5_loses 24 = .ok (.aload_n 0, 1) := by decide +kernel
theorem dX5_loses_25 : decode cX5_loses 25 = .ok (.iload_n 1, 1) := by decide +kernel
theorem dX5_loses_26 : decode cX5_loses 26 = .ok (.iconst 4, 1) := by decide +kernel
theorem dX5_loses_27 : decode cX5_loses 27 = .ok (.invokevirtual 24, 3) := by decide +kernel
theorem dX5_loses_30 : decode cX5_loses 30 = .ok (.iconst 1, 1) := by decide +kernel
theorem dX5_loses_31 : decode cX5_loses 31 = .ok (.if_icmp .ne 7, 3) := by decide +kernel
theorem dX5_loses_34 : decode cX5_loses 34 = .ok (.iconst 1, 1) := by decide +kernel
theorem dX5_loses_35 : decode cX5_loses 35 = .ok (.goto 4, 3) := by decide +kernel
theorem dX5_loses_38 : decode cX5_loses 38 = .ok (.iconst 0, 1) := by decide +kernel
theorem dX5_loses_39 : decode cX5_loses 39 = .ok (.iadd, 1) := by decide +kernel
theorem dX5_loses_40 : decode cX5_loses 40 = .ok (.iastore, 1) := by decide +kernel
theorem dX5_loses_41 : decode cX5_loses 41 = .ok (.aload_n 0, 1) := by decide +kernel
theorem dX5_loses_42 : decode cX5_loses 42 = .ok (.iload_n 1, 1) := by decide +kernel
theorem dX5_loses_43 : decode cX5_loses 43 = .ok (.iconst 0, 1) := by decide +kernel
theorem dX5_loses_44 : decode cX5_loses 44 = .ok (.iconst (-1), 1) := by decide +kernel
theorem dX5_loses_45 : decode cX5_loses 45 = .ok (.invokevirtual 44, 3) := by decide +kernel
theorem dX5_loses_48 : decode cX5_loses 48 = .ok (.iinc 1 1, 3) := by decide +kernel
theorem dX5_loses_51 : decode cX5_loses 51 = .ok (.goto (-49), 3) := by decide +kernel
theorem dX5_loses_54 : decode cX5_loses 54 = .ok (.return_, 1) := by decide +kernel
set_option maxRecDepth 20000 in
theorem ggX5_tick_X5_isCharging : GoodIn wsX5_tick wsX5_isCharging := goodIn_r _ [6, 1, 23, 24, 25, 26, 27, 28, 29, 30, 31] (by decide +kernel) (by decide +kernel)
set_option maxRecDepth 20000 in
theorem gX5_tick_X5_isCharging : GoodIn wsX5_tick (wsV RX5 78 RX5 yX5_isCharging wsX5_isCharging) := goodIn_app (goodIn_of _ (by decide +kernel)) ggX5_tick_X5_isCharging
set_option maxRecDepth 20000 in
theorem ggX5_tick_X5_loses : GoodIn wsX5_tick wsX5_loses := goodIn_r _ [10, 1, 11, 12, 13, 5, 14, 15, 16, 17, 18, 19, 20, 21, 22, 23, 24, 25, 26, 27, 28, 29, 30, 31] (by decide +kernel) (by decide +kernel)
set_option maxRecDepth 20000 in
theorem gX5_tick_X5_loses : GoodIn wsX5_tick (wsV RX5 81 RX5 yX5_loses wsX5_loses) := goodIn_app (goodIn_of _ (by decide +kernel)) ggX5_tick_X5_loses
theorem dX5_tick_0 : decode cX5_tick 0 = .ok (.aload_n 0, 1) := by decide +kernel
theorem dX5_tick_1 : decode cX5_tick 1 = .ok (.invokevirtual 78, 3) := by decide +kernel
theorem dX5_tick_4 : decode cX5_tick 4 = .ok (.ifCond .eq 41, 3) := by decide +kernel
theorem dX5_tick_7 : decode cX5_tick 7 = .ok (.aload_n 0, 1) := by decide +kernel
theorem dX5_tick_8 : decode cX5_tick 8 = .ok (.getfield 7, 3) := by decide +kernel
theorem dX5_tick_11 : decode cX5_tick 11 = .ok (.iconst 3, 1) := by decide +kernel
theorem dX5_tick_12 : decode cX5_tick 12 = .ok (.iaload, 1) := by decide +kernel
theorem dX5_tick_13 : decode cX5_tick 13 = .ok (.iconst 2, 1) := by decide +kernel
theorem dX5_tick_14 : decode cX5_tick 14 = .ok (.iadd, 1) := by decide +kernel
theorem dX5_tick_15 : decode cX5_tick 15 = .ok (.istore_n 1, 1) := by decide +kernel
theorem dX5_tick_16 : decode cX5_tick 16 = .ok (.aload_n 0, 1) := by decide +kernel
theorem dX5_tick_17 : decode cX5_tick 17 = .ok (.getfield 7, 3) := by decide +kernel
theorem dX5_tick_20 : decode cX5_tick 20 = .ok (.iconst 3, 1) := by decide +kernel
theorem dX5_tick_21 : decode cX5_tick 21 = .ok (.iload_n 1, 1) := by decide +kernel
theorem dX5_tick_22 : decode cX5_tick 22 = .ok (.aload_n 0, 1) := by decide +kernel
theorem dX5_tick_23 : decode cX5_tick 23 = .ok (.getfield 7, 3) := by decide +kernel
theorem dX5_tick_26 : decode cX5_tick 26 = .ok (.iconst 2, 1) := by decide +kernel
theorem dX5_tick_27 : decode cX5_tick 27 = .ok (.iaload, 1) := by decide +kernel
theorem dX5_tick_28 : decode cX5_tick 28 = .ok (.if_icmp .le 12, 3) := by decide +kernel
theorem dX5_tick_31 : decode cX5_tick 31 = .ok (.aload_n 0, 1) := by decide +kernel
theorem dX5_tick_32 : decode cX5_tick 32 = .ok (.getfield 7, 3) := by decide +kernel
theorem dX5_tick_35 : decode cX5_tick 35 = .ok (.iconst 2, 1) := by decide +kernel
theorem dX5_tick_36 : decode cX5_tick 36 = .ok (.iaload, 1) := by decide +kernel
theorem dX5_tick_37 : decode cX5_tick 37 = .ok (.goto 4, 3) := by decide +kernel
theorem dX5_tick_40 : decode cX5_tick 40 = .ok (.iload_n 1, 1) := by decide +kernel
theorem dX5_tick_41 : decode cX5_tick 41 = .ok (.iastore, 1) := by decide +kernel
theorem dX5_tick_42 : decode cX5_tick 42 = .ok (.goto 35, 3) := by decide +kernel
theorem dX5_tick_45 : decode cX5_tick 45 = .ok (.aload_n 0, 1) := by decide +kernel
theorem dX5_tick_46 : decode cX5_tick 46 = .ok (.getfield 7, 3) := by decide +kernel
theorem dX5_tick_49 : decode cX5_tick 49 = .ok (.iconst 3, 1) := by decide +kernel
theorem dX5_tick_50 : decode cX5_tick 50 = .ok (.iaload, 1) := by decide +kernel
theorem dX5_tick_51 : decode cX5_tick 51 = .ok (.ifCond .le 26, 3) := by decide +kernel
theorem dX5_tick_54 : decode cX5_tick 54 = .ok (.aload_n 0, 1) := by decide +kernel
theorem dX5_tick_55 : decode cX5_tick 55 = .ok (.getfield 7, 3) := by decide +kernel
theorem dX5_tick_58 : decode cX5_tick 58 = .ok (.iconst 3, 1) := by decide +kernel
theorem dX5_tick_59 : decode cX5_tick 59 = .ok (.dup2, 1) := by decide +kernel
theorem dX5_tick_60 : decode cX5_tick 60 = .ok (.iaload, 1) := by decide +kernel
theorem dX5_tick_61 : decode cX5_tick 61 = .ok (.iconst 1, 1) := by decide +kernel
theorem dX5_tick_62 : decode cX5_tick 62 = .ok (.isub, 1) := by decide +kernel
theorem dX5_tick_63 : decode cX5_tick 63 = .ok (.iastore, 1) := by decide +kernel
theorem dX5_tick_64 : decode cX5_tick 64 = .ok (.aload_n 0, 1) := by decide +kernel
theorem dX5_tick_65 : decode cX5_tick 65 = .ok (.getfield 7, 3) := by decide +kernel
theorem dX5_tick_68 : decode cX5_tick 68 = .ok (.iconst 3, 1) := by decide +kernel
theorem dX5_tick_69 : decode cX5_tick 69 = .ok (.iaload, 1) := by decide +kernel
theorem dX5_tick_70 : decode cX5_tick 70 = .ok (.ifCond .ne 7, 3) := by decide +kernel
theorem dX5_tick_73 : decode cX5_tick 73 = .ok (.aload_n 0, 1) := by decide +kernel
theorem dX5_tick_74 : decode cX5_tick 74 = .ok (.invokevirtual 81, 3) := by decide +kernel
theorem dX5_tick_77 : decode cX5_tick 77 = .ok (.return_, 1) := by decide +kernel
set_option maxRecDepth 20000 in
theorem ggX5_passes_X5_tick : GoodIn wsX5_passes wsX5_tick := goodIn_r _ [6, 1, 7, 8, 9, 5, 10, 11, 12, 13, 14, 15, 16, 17, 18, 19, 20, 21, 22, 23, 24, 25, 26, 27, 28, 29, 30, 31, 32, 33, 34, 35] (by decide +kernel) (by decide +kernel)
set_option maxRecDepth 20000 in
theorem gX5_passes_X5_tick : GoodIn wsX5_passes (wsV RX5 84 RX5 yX5_tick wsX5_tick) := goodIn_app (goodIn_of _ (by decide +kernel)) ggX5_passes_X5_tick
theorem dX5_passes_0 : decode cX5_passes 0 = .ok (.iconst 0, 1) := by decide +kernel
theorem dX5_passes_1 : decode cX5_passes 1 = .ok (.istore_n 2, 1) := by decide +kernel
theorem dX5_passes_2 : decode cX5_passes 2 = .ok (.iload_n 2, 1) := by decide +kernel
theorem dX5_passes_3 : decode cX5_passes 3 = .ok (.iload_n 1, 1) := by decide +kernel
theorem dX5_passes_4 : decode cX5_passes 4 = .ok (.if_icmp .ge 13, 3) := by decide +kernel
theorem dX5_passes_7 : decode cX5_passes 7 = .ok (.aload_n 0, 1) := by decide +kernel
theorem dX5_passes_8 : decode cX5_passes 8 = .ok (.invokevirtual 84, 3) := by decide +kernel
theorem dX5_passes_11 : decode cX5_passes 11 = .ok (.iinc 2 1, 3) := by decide +kernel
theorem dX5_passes_14 : decode cX5_passes 14 = .ok (.goto (-12), 3) := by decide +kernel
theorem dX5_passes_17 : decode cX5_passes 17 = .ok (.aload_n 0, 1) := by decide +kernel
theorem dX5_passes_18 : decode cX5_passes 18 = .ok (.getfield 7, 3) := by decide +kernel
theorem dX5_passes_21 : decode cX5_passes 21 = .ok (.iconst 3, 1) := by decide +kernel
theorem dX5_passes_22 : decode cX5_passes 22 = .ok (.iaload, 1) := by decide +kernel
theorem dX5_passes_23 : decode cX5_passes 23 = .ok (.ireturn, 1) := by decide +kernel
set_option maxRecDepth 20000 in
theorem ggX5_powers_X5_destagesAll : GoodIn wsX5_powers wsX5_destagesAll := goodIn_r _ [6, 7, 8, 9, 5, 10, 1, 11, 12, 13, 14, 15, 16, 17, 18, 19, 20, 21, 22, 23, 24, 25, 26, 27, 28, 29, 30, 31, 32, 33, 34, 35, 36, 37, 38, 39, 40, 41, 42, 43, 44, 45, 46] (by decide +kernel) (by decide +kernel)
set_option maxRecDepth 20000 in
theorem gX5_powers_X5_destagesAll : GoodIn wsX5_powers (wsV RX5 87 RX5 yX5_destagesAll wsX5_destagesAll) := goodIn_app (goodIn_of _ (by decide +kernel)) ggX5_powers_X5_destagesAll
theorem dX5_powers_0 : decode cX5_powers 0 = .ok (.iload_n 1, 1) := by decide +kernel
theorem dX5_powers_1 : decode cX5_powers 1 = .ok (.ifCond .eq 16, 3) := by decide +kernel
theorem dX5_powers_4 : decode cX5_powers 4 = .ok (.aload_n 0, 1) := by decide +kernel
theorem dX5_powers_5 : decode cX5_powers 5 = .ok (.getfield 7, 3) := by decide +kernel
theorem dX5_powers_8 : decode cX5_powers 8 = .ok (.iconst 1, 1) := by decide +kernel
theorem dX5_powers_9 : decode cX5_powers 9 = .ok (.iaload, 1) := by decide +kernel
theorem dX5_powers_10 : decode cX5_powers 10 = .ok (.ifCond .ne 7, 3) := by decide +kernel
theorem dX5_powers_13 : decode cX5_powers 13 = .ok (.iconst 1, 1) := by decide +kernel
theorem dX5_powers_14 : decode cX5_powers 14 = .ok (.goto 4, 3) := by decide +kernel
theorem dX5_powers_17 : decode cX5_powers 17 = .ok (.iconst 0, 1) := by decide +kernel
theorem dX5_powers_18 : decode cX5_powers 18 = .ok (.istore_n 2, 1) := by decide +kernel
theorem dX5_powers_19 : decode cX5_powers 19 = .ok (.aload_n 0, 1) := by decide +kernel
theorem dX5_powers_20 : decode cX5_powers 20 = .ok (.getfield 7, 3) := by decide +kernel
theorem dX5_powers_23 : decode cX5_powers 23 = .ok (.iconst 1, 1) := by decide +kernel
theorem dX5_powers_24 : decode cX5_powers 24 = .ok (.iload_n 1, 1) := by decide +kernel
theorem dX5_powers_25 : decode cX5_powers 25 = .ok (.ifCond .eq 7, 3) := by decide +kernel
theorem dX5_powers_28 : decode cX5_powers 28 = .ok (.iconst 1, 1) := by decide +kernel
theorem dX5_powers_29 : decode cX5_powers 29 = .ok (.goto 4, 3) := by decide +kernel
theorem dX5_powers_32 : decode cX5_powers 32 = .ok (.iconst 0, 1) := by decide +kernel
theorem dX5_powers_33 : decode cX5_powers 33 = .ok (.iastore, 1) := by decide +kernel
theorem dX5_powers_34 : decode cX5_powers 34 = .ok (.iload_n 2, 1) := by decide +kernel
theorem dX5_powers_35 : decode cX5_powers 35 = .ok (.ifCond .eq 31, 3) := by decide +kernel
theorem dX5_powers_38 : decode cX5_powers 38 = .ok (.aload_n 0, 1) := by decide +kernel
theorem dX5_powers_39 : decode cX5_powers 39 = .ok (.getfield 7, 3) := by decide +kernel
theorem dX5_powers_42 : decode cX5_powers 42 = .ok (.iconst 0, 1) := by decide +kernel
theorem dX5_powers_43 : decode cX5_powers 43 = .ok (.iaload, 1) := by decide +kernel
theorem dX5_powers_44 : decode cX5_powers 44 = .ok (.iconst 1, 1) := by decide +kernel
theorem dX5_powers_45 : decode cX5_powers 45 = .ok (.if_icmp .ne 21, 3) := by decide +kernel
theorem dX5_powers_48 : decode cX5_powers 48 = .ok (.aload_n 0, 1) := by decide +kernel
theorem dX5_powers_49 : decode cX5_powers 49 = .ok (.getfield 7, 3) := by decide +kernel
theorem dX5_powers_52 : decode cX5_powers 52 = .ok (.iconst 3, 1) := by decide +kernel
theorem dX5_powers_53 : decode cX5_powers 53 = .ok (.iaload, 1) := by decide +kernel
theorem dX5_powers_54 : decode cX5_powers 54 = .ok (.bipush 20, 2) := by decide +kernel
theorem dX5_powers_56 : decode cX5_powers 56 = .ok (.if_icmp .ge 10, 3) := by decide +kernel
theorem dX5_powers_59 : decode cX5_powers 59 = .ok (.aload_n 0, 1) := by decide +kernel
theorem dX5_powers_60 : decode cX5_powers 60 = .ok (.invokevirtual 87, 3) := by decide +kernel
theorem dX5_powers_63 : decode cX5_powers 63 = .ok (.goto 4, 3) := by decide +kernel
theorem dX5_powers_66 : decode cX5_powers 66 = .ok (.iconst 0, 1) := by decide +kernel
theorem dX5_powers_67 : decode cX5_powers 67 = .ok (.ireturn, 1) := by decide +kernel
set_option maxRecDepth 20000 in
theorem ggX5_movesStick_X5_isEmpty : GoodIn wsX5_movesStick wsX5_isEmpty := goodIn_r _ [6, 7, 8, 9, 5, 10, 1, 15, 16, 17, 18, 19, 20, 21, 22, 23] (by decide +kernel) (by decide +kernel)
set_option maxRecDepth 20000 in
theorem gX5_movesStick_X5_isEmpty : GoodIn wsX5_movesStick (wsV RX5 28 RX5 yX5_isEmpty wsX5_isEmpty) := goodIn_app (goodIn_of _ (by decide +kernel)) ggX5_movesStick_X5_isEmpty
set_option maxRecDepth 20000 in
theorem ggX5_movesStick_X5_of : GoodIn wsX5_movesStick wsX5_of := goodIn_r _ [10, 1, 15, 16, 17, 18, 19, 20, 21, 22, 23] (by decide +kernel) (by decide +kernel)
set_option maxRecDepth 20000 in
theorem gX5_movesStick_X5_of : GoodIn wsX5_movesStick (wsV RX5 24 RX5 yX5_of wsX5_of) := goodIn_app (goodIn_of _ (by decide +kernel)) ggX5_movesStick_X5_of
set_option maxRecDepth 20000 in
theorem ggX5_movesStick_X5_lay : GoodIn wsX5_movesStick wsX5_lay := goodIn_r _ [14, 1, 15, 16, 17, 18, 19, 20, 21, 22, 23] (by decide +kernel) (by decide +kernel)
set_option maxRecDepth 20000 in
theorem gX5_movesStick_X5_lay : GoodIn wsX5_movesStick (wsV RX5 44 RX5 yX5_lay wsX5_lay) := goodIn_app (goodIn_of _ (by decide +kernel)) ggX5_movesStick_X5_lay
theorem dX5_movesStick_0 : decode cX5_movesStick 0 = .ok (.iconst 0, 1) := by decide +kernel
theorem dX5_movesStick_1 : decode cX5_movesStick 1 = .ok (.istore_n 2, 1) := by decide +kernel
theorem dX5_movesStick_2 : decode cX5_movesStick 2 = .ok (.iconst 0, 1) := by decide +kernel
theorem dX5_movesStick_3 : decode cX5_movesStick 3 = .ok (.istore_n 3, 1) := by decide +kernel
theorem dX5_movesStick_4 : decode cX5_movesStick 4 = .ok (.iload_n 3, 1) := by decide +kernel
theorem dX5_movesStick_5 : decode cX5_movesStick 5 = .ok (.bipush 12, 2) := by decide +kernel
theorem dX5_movesStick_7 : decode cX5_movesStick 7 = .ok (.if_icmp .ge 67, 3) := by decide +kernel
theorem dX5_movesStick_10 : decode cX5_movesStick 10 = .ok (.iload_n 1, 1) := by decide +kernel
theorem dX5_movesStick_11 : decode cX5_movesStick 11 = .ok (.ifCond .eq 63, 3) := by decide +kernel
theorem dX5_movesStick_14 : decode cX5_movesStick 14 = .ok (.aload_n 0, 1) := by decide +kernel
theorem dX5_movesStick_15 : decode cX5_movesStick 15 = .ok (.getfield 7, 3) := by decide +kernel
theorem dX5_movesStick_18 : decode cX5_movesStick 18 = .ok (.iconst 0, 1) := by decide +kernel
theorem dX5_movesStick_19 : decode cX5_movesStick 19 = .ok (.iaload, 1) := by decide +kernel
theorem dX5_movesStick_20 : decode cX5_movesStick 20 = .ok (.ifCond .ne 54, 3) := by decide +kernel
theorem dX5_movesStick_23 : decode cX5_movesStick 23 = .ok (.aload_n 0, 1) := by decide +kernel
theorem dX5_movesStick_24 : decode cX5_movesStick 24 = .ok (.iload_n 3, 1) := by decide +kernel
theorem dX5_movesStick_25 : decode cX5_movesStick 25 = .ok (.invokevirtual 28, 3) := by decide +kernel
theorem dX5_movesStick_28 : decode cX5_movesStick 28 = .ok (.ifCond .ne 40, 3) := by decide +kernel
theorem dX5_movesStick_31 : decode cX5_movesStick 31 = .ok (.aload_n 0, 1) := by decide +kernel
theorem dX5_movesStick_32 : decode cX5_movesStick 32 = .ok (.iload_n 3, 1) := by decide +kernel
theorem dX5_movesStick_33 : decode cX5_movesStick 33 = .ok (.iconst 2, 1) := by decide +kernel
theorem dX5_movesStick_34 : decode cX5_movesStick 34 = .ok (.invokevirtual 24, 3) := by decide +kernel
theorem dX5_movesStick_37 : decode cX5_movesStick 37 = .ok (.aload_n 0, 1) := by decide +kernel
theorem dX5_movesStick_38 : decode cX5_movesStick 38 = .ok (.getfield 7, 3) := by decide +kernel
theorem dX5_movesStick_41 : decode cX5_movesStick 41 = .ok (.bipush 15, 2) := by decide +kernel
theorem dX5_movesStick_43 : decode cX5_movesStick 43 = .ok (.iconst 2, 1) := by decide +kernel
theorem dX5_movesStick_44 : decode cX5_movesStick 44 = .ok (.aload_n 0, 1) := by decide +kernel
theorem dX5_movesStick_45 : decode cX5_movesStick 45 = .ok (.iload_n 3, 1) := by decide +kernel
theorem dX5_movesStick_46 : decode cX5_movesStick 46 = .ok (.iconst 0, 1) := by decide +kernel
theorem dX5_movesStick_47 : decode cX5_movesStick 47 = .ok (.invokevirtual 24, 3) := by decide +kernel
theorem dX5_movesStick_50 : decode cX5_movesStick 50 = .ok (.imul, 1) := by decide +kernel
theorem dX5_movesStick_51 : decode cX5_movesStick 51 = .ok (.iadd, 1) := by decide +kernel
theorem dX5_movesStick_52 : decode cX5_movesStick 52 = .ok (.iconst 1, 1) := by decide +kernel
theorem dX5_movesStick_53 : decode cX5_movesStick 53 = .ok (.iadd, 1) := by decide +kernel
theorem dX5_movesStick_54 : decode cX5_movesStick 54 = .ok (.iaload, 1) := by decide +kernel
theorem dX5_movesStick_55 : decode cX5_movesStick 55 = .ok (.if_icmp .ge 13, 3) := by decide +kernel
theorem dX5_movesStick_58 : decode cX5_movesStick 58 = .ok (.aload_n 0, 1) := by decide +kernel
theorem dX5_movesStick_59 : decode cX5_movesStick 59 = .ok (.iload_n 3, 1) := by decide +kernel
theorem dX5_movesStick_60 : decode cX5_movesStick 60 = .ok (.iconst 0, 1) := by decide +kernel
theorem dX5_movesStick_61 : decode cX5_movesStick 61 = .ok (.iconst (-1), 1) := by decide +kernel
theorem dX5_movesStick_62 : decode cX5_movesStick 62 = .ok (.invokevirtual 44, 3) := by decide +kernel
theorem dX5_movesStick_65 : decode cX5_movesStick 65 = .ok (.iinc 2 1, 3) := by decide +kernel
theorem dX5_movesStick_68 : decode cX5_movesStick 68 = .ok (.iinc 3 1, 3) := by decide +kernel
theorem dX5_movesStick_71 : decode cX5_movesStick 71 = .ok (.goto (-67), 3) := by decide +kernel
theorem dX5_movesStick_74 : decode cX5_movesStick 74 = .ok (.aload_n 0, 1) := by decide +kernel
theorem dX5_movesStick_75 : decode cX5_movesStick 75 = .ok (.getfield 7, 3) := by decide +kernel
theorem dX5_movesStick_78 : decode cX5_movesStick 78 = .ok (.iconst 0, 1) := by decide +kernel
theorem dX5_movesStick_79 : decode cX5_movesStick 79 = .ok (.iload_n 1, 1) := by decide +kernel
theorem dX5_movesStick_80 : decode cX5_movesStick 80 = .ok (.ifCond .eq 7, 3) := by decide +kernel
theorem dX5_movesStick_83 : decode cX5_movesStick 83 = .ok (.iconst 1, 1) := by decide +kernel
theorem dX5_movesStick_84 : decode cX5_movesStick 84 = .ok (.goto 4, 3) := by decide +kernel
theorem dX5_movesStick_87 : decode cX5_movesStick 87 = .ok (.iconst 0, 1) := by decide +kernel
theorem dX5_movesStick_88 : decode cX5_movesStick 88 = .ok (.iastore, 1) := by decide +kernel
theorem dX5_movesStick_89 : decode cX5_movesStick 89 = .ok (.iload_n 2, 1) := by decide +kernel
theorem dX5_movesStick_90 : decode cX5_movesStick 90 = .ok (.ireturn, 1) := by decide +kernel
theorem dX5_copies_0 : decode cX5_copies 0 = .ok (.iconst 0, 1) := by decide +kernel
theorem dX5_copies_1 : decode cX5_copies 1 = .ok (.istore_n 3, 1) := by decide +kernel
theorem dX5_copies_2 : decode cX5_copies 2 = .ok (.iload_n 3, 1) := by decide +kernel
theorem dX5_copies_3 : decode cX5_copies 3 = .ok (.sipush 331, 3) := by decide +kernel
theorem dX5_copies_6 : decode cX5_copies 6 = .ok (.if_icmp .ge 33, 3) := by decide +kernel
theorem dX5_copies_9 : decode cX5_copies 9 = .ok (.aload_n 0, 1) := by decide +kernel
theorem dX5_copies_10 : decode cX5_copies 10 = .ok (.getfield 7, 3) := by decide +kernel
theorem dX5_copies_13 : decode cX5_copies 13 = .ok (.sipush 331, 3) := by decide +kernel
theorem dX5_copies_16 : decode cX5_copies 16 = .ok (.iload_n 2, 1) := by decide +kernel
theorem dX5_copies_17 : decode cX5_copies 17 = .ok (.imul, 1) := by decide +kernel
theorem dX5_copies_18 : decode cX5_copies 18 = .ok (.iload_n 3, 1) := by decide +kernel
theorem dX5_copies_19 : decode cX5_copies 19 = .ok (.iadd, 1) := by decide +kernel
theorem dX5_copies_20 : decode cX5_copies 20 = .ok (.aload_n 0, 1) := by decide +kernel
theorem dX5_copies_21 : decode cX5_copies 21 = .ok (.getfield 7, 3) := by decide +kernel
theorem dX5_copies_24 : decode cX5_copies 24 = .ok (.sipush 331, 3) := by decide +kernel
theorem dX5_copies_27 : decode cX5_copies 27 = .ok (.iload_n 1, 1) := by decide +kernel
theorem dX5_copies_28 : decode cX5_copies 28 = .ok (.imul, 1) := by decide +kernel
theorem dX5_copies_29 : decode cX5_copies 29 = .ok (.iload_n 3, 1) := by decide +kernel
theorem dX5_copies_30 : decode cX5_copies 30 = .ok (.iadd, 1) := by decide +kernel
theorem dX5_copies_31 : decode cX5_copies 31 = .ok (.iaload, 1) := by decide +kernel
theorem dX5_copies_32 : decode cX5_copies 32 = .ok (.iastore, 1) := by decide +kernel
theorem dX5_copies_33 : decode cX5_copies 33 = .ok (.iinc 3 1, 3) := by decide +kernel
theorem dX5_copies_36 : decode cX5_copies 36 = .ok (.goto (-34), 3) := by decide +kernel
theorem dX5_copies_39 : decode cX5_copies 39 = .ok (.return_, 1) := by decide +kernel
set_option maxRecDepth 20000 in
theorem ggX5_keeps_X5_copies : GoodIn wsX5_keeps wsX5_copies := goodIn_r _ [6, 7, 8, 9, 10, 11, 12, 13, 14, 15, 16] (by decide +kernel) (by decide +kernel)
set_option maxRecDepth 20000 in
theorem gX5_keeps_X5_copies : GoodIn wsX5_keeps (wsV RX5 93 RX5 yX5_copies wsX5_copies) := goodIn_app (goodIn_of _ (by decide +kernel)) ggX5_keeps_X5_copies
theorem dX5_keeps_0 : decode cX5_keeps 0 = .ok (.iconst 1, 1) := by decide +kernel
theorem dX5_keeps_1 : decode cX5_keeps 1 = .ok (.istore_n 1, 1) := by decide +kernel
theorem dX5_keeps_2 : decode cX5_keeps 2 = .ok (.iload_n 1, 1) := by decide +kernel
theorem dX5_keeps_3 : decode cX5_keeps 3 = .ok (.bipush 6, 2) := by decide +kernel
theorem dX5_keeps_5 : decode cX5_keeps 5 = .ok (.if_icmp .ge 26, 3) := by decide +kernel
theorem dX5_keeps_8 : decode cX5_keeps 8 = .ok (.aload_n 0, 1) := by decide +kernel
theorem dX5_keeps_9 : decode cX5_keeps 9 = .ok (.getfield 90, 3) := by decide +kernel
theorem dX5_keeps_12 : decode cX5_keeps 12 = .ok (.bipush 6, 2) := by decide +kernel
theorem dX5_keeps_14 : decode cX5_keeps 14 = .ok (.if_icmp .ne 17, 3) := by decide +kernel
theorem dX5_keeps_17 : decode cX5_keeps 17 = .ok (.aload_n 0, 1) := by decide +kernel
theorem dX5_keeps_18 : decode cX5_keeps 18 = .ok (.iload_n 1, 1) := by decide +kernel
theorem dX5_keeps_19 : decode cX5_keeps 19 = .ok (.iconst 1, 1) := by decide +kernel
theorem dX5_keeps_20 : decode cX5_keeps 20 = .ok (.iadd, 1) := by decide +kernel
theorem dX5_keeps_21 : decode cX5_keeps 21 = .ok (.iload_n 1, 1) := by decide +kernel
theorem dX5_keeps_22 : decode cX5_keeps 22 = .ok (.invokevirtual 93, 3) := by decide +kernel
theorem dX5_keeps_25 : decode cX5_keeps 25 = .ok (.iinc 1 1, 3) := by decide +kernel
theorem dX5_keeps_28 : decode cX5_keeps 28 = .ok (.goto (-26), 3) := by decide +kernel
theorem dX5_keeps_31 : decode cX5_keeps 31 = .ok (.aload_n 0, 1) := by decide +kernel
theorem dX5_keeps_32 : decode cX5_keeps 32 = .ok (.dup, 1) := by decide +kernel
theorem dX5_keeps_33 : decode cX5_keeps 33 = .ok (.getfield 90, 3) := by decide +kernel
theorem dX5_keeps_36 : decode cX5_keeps 36 = .ok (.aload_n 0, 1) := by decide +kernel
theorem dX5_keeps_37 : decode cX5_keeps 37 = .ok (.getfield 90, 3) := by decide +kernel
theorem dX5_keeps_40 : decode cX5_keeps 40 = .ok (.bipush 6, 2) := by decide +kernel
theorem dX5_keeps_42 : decode cX5_keeps 42 = .ok (.if_icmp .ge 7, 3) := by decide +kernel
theorem dX5_keeps_45 : decode cX5_keeps 45 = .ok (.iconst 1, 1) := by decide +kernel
theorem dX5_keeps_46 : decode cX5_keeps 46 = .ok (.goto 4, 3) := by decide +kernel
theorem dX5_keeps_49 : decode cX5_keeps 49 = .ok (.iconst 0, 1) := by decide +kernel
theorem dX5_keeps_50 : decode cX5_keeps 50 = .ok (.iadd, 1) := by decide +kernel
theorem dX5_keeps_51 : decode cX5_keeps 51 = .ok (.putfield 90, 3) := by decide +kernel
theorem dX5_keeps_54 : decode cX5_keeps 54 = .ok (.aload_n 0, 1) := by decide +kernel
theorem dX5_keeps_55 : decode cX5_keeps 55 = .ok (.iconst 0, 1) := by decide +kernel
theorem dX5_keeps_56 : decode cX5_keeps 56 = .ok (.aload_n 0, 1) := by decide +kernel
theorem dX5_keeps_57 : decode cX5_keeps 57 = .ok (.getfield 90, 3) := by decide +kernel
theorem dX5_keeps_60 : decode cX5_keeps 60 = .ok (.invokevirtual 93, 3) := by decide +kernel
theorem dX5_keeps_63 : decode cX5_keeps 63 = .ok (.return_, 1) := by decide +kernel
set_option maxRecDepth 20000 in
theorem ggX5_write_X5_isBlock : GoodIn wsX5_write wsX5_isBlock := goodIn_r _ [5, 6, 7, 4, 8] (by decide +kernel) (by decide +kernel)
set_option maxRecDepth 20000 in
theorem gX5_write_X5_isBlock : GoodIn wsX5_write (va_wsS RX5 97 yX5_isBlock wsX5_isBlock) := goodIn_app (goodIn_of _ (by decide +kernel)) ggX5_write_X5_isBlock
set_option maxRecDepth 20000 in
theorem ggX5_write_X5_in : GoodIn wsX5_write wsX5_in := goodIn_r _ [8] (by decide +kernel) (by decide +kernel)
set_option maxRecDepth 20000 in
theorem gX5_write_X5_in : GoodIn wsX5_write (va_wsS RX5 20 yX5_in wsX5_in) := goodIn_app (goodIn_of _ (by decide +kernel)) ggX5_write_X5_in
set_option maxRecDepth 20000 in
theorem ggX5_write_X5_holds : GoodIn wsX5_write wsX5_holds := goodIn_r _ [12, 13, 86, 87, 88, 89, 90, 91, 92, 93, 94] (by decide +kernel) (by decide +kernel)
set_option maxRecDepth 20000 in
theorem gX5_write_X5_holds : GoodIn wsX5_write (wsV RX5 100 RX5 yX5_holds wsX5_holds) := goodIn_app (goodIn_of _ (by decide +kernel)) ggX5_write_X5_holds
set_option maxRecDepth 20000 in
theorem ggX5_write_X5_keeps : GoodIn wsX5_write wsX5_keeps := goodIn_r _ [17, 18, 19, 20, 21, 4, 22, 1, 86, 87, 88, 89, 90, 91, 92, 93, 94] (by decide +kernel) (by decide +kernel)
set_option maxRecDepth 20000 in
theorem gX5_write_X5_keeps : GoodIn wsX5_write (wsV RX5 103 RX5 yX5_keeps wsX5_keeps) := goodIn_app (goodIn_of _ (by decide +kernel)) ggX5_write_X5_keeps
set_option maxRecDepth 20000 in
theorem ggX5_write_X5_writes : GoodIn wsX5_write wsX5_writes := goodIn_r _ [26, 1, 27, 28, 29, 4, 30, 31, 32, 33, 34, 35, 36, 37, 38, 39, 40, 41, 42, 43, 44, 45, 46, 47, 48, 49, 50, 51, 52, 53, 54, 55, 56, 57, 58, 59, 60, 61, 62, 63, 64, 65, 66, 67, 68, 69, 70, 71, 72, 73, 74, 75, 76, 77, 78, 79, 80, 81, 82, 83, 84, 85, 86, 87, 88, 89, 90, 91, 92, 93, 94] (by decide +kernel) (by decide +kernel)
set_option maxRecDepth 20000 in
theorem gX5_write_X5_writes : GoodIn wsX5_write (wsV RX5 106 RX5 yX5_writes wsX5_writes) := goodIn_app (goodIn_of _ (by decide +kernel)) ggX5_write_X5_writes
theorem dX5_write_0 : decode cX5_write 0 = .ok (.aload_n 0, 1) := by decide +kernel
theorem dX5_write_1 : decode cX5_write 1 = .ok (.iload_n 1, 1) := by decide +kernel
theorem dX5_write_2 : decode cX5_write 2 = .ok (.invokestatic 97, 3) := by decide +kernel
theorem dX5_write_5 : decode cX5_write 5 = .ok (.ifCond .ne 7, 3) := by decide +kernel
theorem dX5_write_8 : decode cX5_write 8 = .ok (.iconst 1, 1) := by decide +kernel
theorem dX5_write_9 : decode cX5_write 9 = .ok (.goto 32, 3) := by decide +kernel
theorem dX5_write_12 : decode cX5_write 12 = .ok (.iload_n 2, 1) := by decide +kernel
theorem dX5_write_13 : decode cX5_write 13 = .ok (.iconst 0, 1) := by decide +kernel
theorem dX5_write_14 : decode cX5_write 14 = .ok (.sipush 999, 3) := by decide +kernel
theorem dX5_write_17 : decode cX5_write 17 = .ok (.invokestatic 20, 3) := by decide +kernel
theorem dX5_write_20 : decode cX5_write 20 = .ok (.ifCond .ne 7, 3) := by decide +kernel
theorem dX5_write_23 : decode cX5_write 23 = .ok (.iconst 2, 1) := by decide +kernel
theorem dX5_write_24 : decode cX5_write 24 = .ok (.goto 17, 3) := by decide +kernel
theorem dX5_write_27 : decode cX5_write 27 = .ok (.aload_n 0, 1) := by decide +kernel
theorem dX5_write_28 : decode cX5_write 28 = .ok (.getfield 7, 3) := by decide +kernel
theorem dX5_write_31 : decode cX5_write 31 = .ok (.iconst 1, 1) := by decide +kernel
theorem dX5_write_32 : decode cX5_write 32 = .ok (.iaload, 1) := by decide +kernel
theorem dX5_write_33 : decode cX5_write 33 = .ok (.ifCond .ne 7, 3) := by decide +kernel
theorem dX5_write_36 : decode cX5_write 36 = .ok (.iconst 3, 1) := by decide +kernel
theorem dX5_write_37 : decode cX5_write 37 = .ok (.goto 4, 3) := by decide +kernel
theorem dX5_write_40 : decode cX5_write 40 = .ok (.iconst 0, 1) := by decide +kernel
theorem dX5_write_41 : decode cX5_write 41 = .ok (.invokevirtual 100, 3) := by decide +kernel
theorem dX5_write_44 : decode cX5_write 44 = .ok (.ifCond .ne 5, 3) := by decide +kernel
theorem dX5_write_47 : decode cX5_write 47 = .ok (.iconst 0, 1) := by decide +kernel
theorem dX5_write_48 : decode cX5_write 48 = .ok (.ireturn, 1) := by decide +kernel
theorem dX5_write_49 : decode cX5_write 49 = .ok (.aload_n 0, 1) := by decide +kernel
theorem dX5_write_50 : decode cX5_write 50 = .ok (.invokevirtual 103, 3) := by decide +kernel
theorem dX5_write_53 : decode cX5_write 53 = .ok (.aload_n 0, 1) := by decide +kernel
theorem dX5_write_54 : decode cX5_write 54 = .ok (.iload_n 1, 1) := by decide +kernel
theorem dX5_write_55 : decode cX5_write 55 = .ok (.iload_n 2, 1) := by decide +kernel
theorem dX5_write_56 : decode cX5_write 56 = .ok (.invokevirtual 106, 3) := by decide +kernel
theorem dX5_write_59 : decode cX5_write 59 = .ok (.ireturn, 1) := by decide +kernel
set_option maxRecDepth 20000 in
theorem ggX5_read_X5_isBlock : GoodIn wsX5_read wsX5_isBlock := goodIn_r _ [5, 6, 7, 4, 8] (by decide +kernel) (by decide +kernel)
set_option maxRecDepth 20000 in
theorem gX5_read_X5_isBlock : GoodIn wsX5_read (va_wsS RX5 97 yX5_isBlock wsX5_isBlock) := goodIn_app (goodIn_of _ (by decide +kernel)) ggX5_read_X5_isBlock
set_option maxRecDepth 20000 in
theorem ggX5_read_X5_holds : GoodIn wsX5_read wsX5_holds := goodIn_r _ [12, 13, 39, 40, 41, 42, 43, 44, 45, 46, 47] (by decide +kernel) (by decide +kernel)
set_option maxRecDepth 20000 in
theorem gX5_read_X5_holds : GoodIn wsX5_read (wsV RX5 100 RX5 yX5_holds wsX5_holds) := goodIn_app (goodIn_of _ (by decide +kernel)) ggX5_read_X5_holds
set_option maxRecDepth 20000 in
theorem ggX5_read_X5_keeps : GoodIn wsX5_read wsX5_keeps := goodIn_r _ [17, 18, 19, 20, 21, 4, 22, 1, 39, 40, 41, 42, 43, 44, 45, 46, 47] (by decide +kernel) (by decide +kernel)
set_option maxRecDepth 20000 in
theorem gX5_read_X5_keeps : GoodIn wsX5_read (wsV RX5 103 RX5 yX5_keeps wsX5_keeps) := goodIn_app (goodIn_of _ (by decide +kernel)) ggX5_read_X5_keeps
set_option maxRecDepth 20000 in
theorem ggX5_read_X5_reads : GoodIn wsX5_read wsX5_reads := goodIn_r _ [26, 1, 27, 28, 29, 4, 30, 31, 32, 33, 34, 35, 36, 37, 38, 39, 40, 41, 42, 43, 44, 45, 46, 47] (by decide +kernel) (by decide +kernel)
set_option maxRecDepth 20000 in
theorem gX5_read_X5_reads : GoodIn wsX5_read (wsV RX5 109 RX5 yX5_reads wsX5_reads) := goodIn_app (goodIn_of _ (by decide +kernel)) ggX5_read_X5_reads
theorem dX5_read_0 : decode cX5_read 0 = .ok (.aload_n 0, 1) := by decide +kernel
theorem dX5_read_1 : decode cX5_read 1 = .ok (.iload_n 1, 1) := by decide +kernel
theorem dX5_read_2 : decode cX5_read 2 = .ok (.invokestatic 97, 3) := by decide +kernel
theorem dX5_read_5 : decode cX5_read 5 = .ok (.ifCond .ne 7, 3) := by decide +kernel
theorem dX5_read_8 : decode cX5_read 8 = .ok (.iconst 1, 1) := by decide +kernel
theorem dX5_read_9 : decode cX5_read 9 = .ok (.goto 17, 3) := by decide +kernel
theorem dX5_read_12 : decode cX5_read 12 = .ok (.aload_n 0, 1) := by decide +kernel
theorem dX5_read_13 : decode cX5_read 13 = .ok (.getfield 7, 3) := by decide +kernel
theorem dX5_read_16 : decode cX5_read 16 = .ok (.iconst 1, 1) := by decide +kernel
theorem dX5_read_17 : decode cX5_read 17 = .ok (.iaload, 1) := by decide +kernel
theorem dX5_read_18 : decode cX5_read 18 = .ok (.ifCond .ne 7, 3) := by decide +kernel
theorem dX5_read_21 : decode cX5_read 21 = .ok (.iconst 2, 1) := by decide +kernel
theorem dX5_read_22 : decode cX5_read 22 = .ok (.goto 4, 3) := by decide +kernel
theorem dX5_read_25 : decode cX5_read 25 = .ok (.iconst 0, 1) := by decide +kernel
theorem dX5_read_26 : decode cX5_read 26 = .ok (.invokevirtual 100, 3) := by decide +kernel
theorem dX5_read_29 : decode cX5_read 29 = .ok (.ifCond .ne 5, 3) := by decide +kernel
theorem dX5_read_32 : decode cX5_read 32 = .ok (.iconst 0, 1) := by decide +kernel
theorem dX5_read_33 : decode cX5_read 33 = .ok (.ireturn, 1) := by decide +kernel
theorem dX5_read_34 : decode cX5_read 34 = .ok (.aload_n 0, 1) := by decide +kernel
theorem dX5_read_35 : decode cX5_read 35 = .ok (.invokevirtual 103, 3) := by decide +kernel
theorem dX5_read_38 : decode cX5_read 38 = .ok (.aload_n 0, 1) := by decide +kernel
theorem dX5_read_39 : decode cX5_read 39 = .ok (.iload_n 1, 1) := by decide +kernel
theorem dX5_read_40 : decode cX5_read 40 = .ok (.invokevirtual 109, 3) := by decide +kernel
theorem dX5_read_43 : decode cX5_read 43 = .ok (.ireturn, 1) := by decide +kernel
set_option maxRecDepth 20000 in
theorem ggX5_destage_X5_isStripe : GoodIn wsX5_destage wsX5_isStripe := goodIn_r _ [4, 5, 6, 3, 7] (by decide +kernel) (by decide +kernel)
set_option maxRecDepth 20000 in
theorem gX5_destage_X5_isStripe : GoodIn wsX5_destage (va_wsS RX5 112 yX5_isStripe wsX5_isStripe) := goodIn_app (goodIn_of _ (by decide +kernel)) ggX5_destage_X5_isStripe
set_option maxRecDepth 20000 in
theorem ggX5_destage_X5_isCharging : GoodIn wsX5_destage wsX5_isCharging := goodIn_r _ [11, 12, 58, 59, 60, 61, 62, 63, 64, 65, 66] (by decide +kernel) (by decide +kernel)
set_option maxRecDepth 20000 in
theorem gX5_destage_X5_isCharging : GoodIn wsX5_destage (wsV RX5 78 RX5 yX5_isCharging wsX5_isCharging) := goodIn_app (goodIn_of _ (by decide +kernel)) ggX5_destage_X5_isCharging
set_option maxRecDepth 20000 in
theorem ggX5_destage_X5_holds : GoodIn wsX5_destage wsX5_holds := goodIn_r _ [16, 17, 58, 59, 60, 61, 62, 63, 64, 65, 66] (by decide +kernel) (by decide +kernel)
set_option maxRecDepth 20000 in
theorem gX5_destage_X5_holds : GoodIn wsX5_destage (wsV RX5 100 RX5 yX5_holds wsX5_holds) := goodIn_app (goodIn_of _ (by decide +kernel)) ggX5_destage_X5_holds
set_option maxRecDepth 20000 in
theorem ggX5_destage_X5_keeps : GoodIn wsX5_destage wsX5_keeps := goodIn_r _ [21, 22, 23, 24, 25, 3, 26, 12, 58, 59, 60, 61, 62, 63, 64, 65, 66] (by decide +kernel) (by decide +kernel)
set_option maxRecDepth 20000 in
theorem gX5_destage_X5_keeps : GoodIn wsX5_destage (wsV RX5 103 RX5 yX5_keeps wsX5_keeps) := goodIn_app (goodIn_of _ (by decide +kernel)) ggX5_destage_X5_keeps
set_option maxRecDepth 20000 in
theorem ggX5_destage_X5_destages : GoodIn wsX5_destage wsX5_destages := goodIn_r _ [30, 12, 31, 32, 33, 3, 34, 35, 36, 37, 38, 39, 40, 41, 42, 43, 44, 45, 46, 47, 48, 49, 50, 51, 52, 53, 54, 55, 56, 57, 58, 59, 60, 61, 62, 63, 64, 65, 66] (by decide +kernel) (by decide +kernel)
set_option maxRecDepth 20000 in
theorem gX5_destage_X5_destages : GoodIn wsX5_destage (wsV RX5 51 RX5 yX5_destages wsX5_destages) := goodIn_app (goodIn_of _ (by decide +kernel)) ggX5_destage_X5_destages
theorem dX5_destage_0 : decode cX5_destage 0 = .ok (.aload_n 0, 1) := by decide +kernel
theorem dX5_destage_1 : decode cX5_destage 1 = .ok (.iload_n 1, 1) := by decide +kernel
theorem dX5_destage_2 : decode cX5_destage 2 = .ok (.invokestatic 112, 3) := by decide +kernel
theorem dX5_destage_5 : decode cX5_destage 5 = .ok (.ifCond .ne 7, 3) := by decide +kernel
theorem dX5_destage_8 : decode cX5_destage 8 = .ok (.iconst 1, 1) := by decide +kernel
theorem dX5_destage_9 : decode cX5_destage 9 = .ok (.goto 15, 3) := by decide +kernel
theorem dX5_destage_12 : decode cX5_destage 12 = .ok (.aload_n 0, 1) := by decide +kernel
theorem dX5_destage_13 : decode cX5_destage 13 = .ok (.invokevirtual 78, 3) := by decide +kernel
theorem dX5_destage_16 : decode cX5_destage 16 = .ok (.ifCond .ne 7, 3) := by decide +kernel
theorem dX5_destage_19 : decode cX5_destage 19 = .ok (.iconst 2, 1) := by decide +kernel
theorem dX5_destage_20 : decode cX5_destage 20 = .ok (.goto 4, 3) := by decide +kernel
theorem dX5_destage_23 : decode cX5_destage 23 = .ok (.iconst 0, 1) := by decide +kernel
theorem dX5_destage_24 : decode cX5_destage 24 = .ok (.invokevirtual 100, 3) := by decide +kernel
theorem dX5_destage_27 : decode cX5_destage 27 = .ok (.ifCond .ne 5, 3) := by decide +kernel
theorem dX5_destage_30 : decode cX5_destage 30 = .ok (.iconst 0, 1) := by decide +kernel
theorem dX5_destage_31 : decode cX5_destage 31 = .ok (.ireturn, 1) := by decide +kernel
theorem dX5_destage_32 : decode cX5_destage 32 = .ok (.aload_n 0, 1) := by decide +kernel
theorem dX5_destage_33 : decode cX5_destage 33 = .ok (.invokevirtual 103, 3) := by decide +kernel
theorem dX5_destage_36 : decode cX5_destage 36 = .ok (.aload_n 0, 1) := by decide +kernel
theorem dX5_destage_37 : decode cX5_destage 37 = .ok (.iload_n 1, 1) := by decide +kernel
theorem dX5_destage_38 : decode cX5_destage 38 = .ok (.invokevirtual 51, 3) := by decide +kernel
theorem dX5_destage_41 : decode cX5_destage 41 = .ok (.ireturn, 1) := by decide +kernel
set_option maxRecDepth 20000 in
theorem ggX5_destageAll_X5_isCharging : GoodIn wsX5_destageAll wsX5_isCharging := goodIn_r _ [5, 6, 56, 57, 58, 59, 60, 61, 62, 63, 64] (by decide +kernel) (by decide +kernel)
set_option maxRecDepth 20000 in
theorem gX5_destageAll_X5_isCharging : GoodIn wsX5_destageAll (wsV RX5 78 RX5 yX5_isCharging wsX5_isCharging) := goodIn_app (goodIn_of _ (by decide +kernel)) ggX5_destageAll_X5_isCharging
set_option maxRecDepth 20000 in
theorem ggX5_destageAll_X5_holds : GoodIn wsX5_destageAll wsX5_holds := goodIn_r _ [10, 11, 56, 57, 58, 59, 60, 61, 62, 63, 64] (by decide +kernel) (by decide +kernel)
set_option maxRecDepth 20000 in
theorem gX5_destageAll_X5_holds : GoodIn wsX5_destageAll (wsV RX5 100 RX5 yX5_holds wsX5_holds) := goodIn_app (goodIn_of _ (by decide +kernel)) ggX5_destageAll_X5_holds
set_option maxRecDepth 20000 in
theorem ggX5_destageAll_X5_keeps : GoodIn wsX5_destageAll wsX5_keeps := goodIn_r _ [15, 16, 17, 18, 19, 4, 20, 6, 56, 57, 58, 59, 60, 61, 62, 63, 64] (by decide +kernel) (by decide +kernel)
set_option maxRecDepth 20000 in
theorem gX5_destageAll_X5_keeps : GoodIn wsX5_destageAll (wsV RX5 103 RX5 yX5_keeps wsX5_keeps) := goodIn_app (goodIn_of _ (by decide +kernel)) ggX5_destageAll_X5_keeps
set_option maxRecDepth 20000 in
theorem ggX5_destageAll_X5_destagesAll : GoodIn wsX5_destageAll wsX5_destagesAll := goodIn_r _ [24, 25, 26, 27, 4, 28, 6, 29, 30, 31, 32, 33, 34, 35, 36, 37, 38, 39, 40, 41, 42, 43, 44, 45, 46, 47, 48, 49, 50, 51, 52, 53, 54, 55, 56, 57, 58, 59, 60, 61, 62, 63, 64] (by decide +kernel) (by decide +kernel)
set_option maxRecDepth 20000 in
theorem gX5_destageAll_X5_destagesAll : GoodIn wsX5_destageAll (wsV RX5 87 RX5 yX5_destagesAll wsX5_destagesAll) := goodIn_app (goodIn_of _ (by decide +kernel)) ggX5_destageAll_X5_destagesAll
theorem dX5_destageAll_0 : decode cX5_destageAll 0 = .ok (.aload_n 0, 1) := by decide +kernel
theorem dX5_destageAll_1 : decode cX5_destageAll 1 = .ok (.aload_n 0, 1) := by decide +kernel
theorem dX5_destageAll_2 : decode cX5_destageAll 2 = .ok (.invokevirtual 78, 3) := by decide +kernel
theorem dX5_destageAll_5 : decode cX5_destageAll 5 = .ok (.ifCond .eq 7, 3) := by decide +kernel
theorem dX5_destageAll_8 : decode cX5_destageAll 8 = .ok (.iconst 0, 1) := by decide +kernel
theorem dX5_destageAll_9 : decode cX5_destageAll 9 = .ok (.goto 4, 3) := by decide +kernel
theorem dX5_destageAll_12 : decode cX5_destageAll 12 = .ok (.iconst 1, 1) := by decide +kernel
theorem dX5_destageAll_13 : decode cX5_destageAll 13 = .ok (.invokevirtual 100, 3) := by decide +kernel
theorem dX5_destageAll_16 : decode cX5_destageAll 16 = .ok (.ifCond .ne 5, 3) := by decide +kernel
theorem dX5_destageAll_19 : decode cX5_destageAll 19 = .ok (.iconst 0, 1) := by decide +kernel
theorem dX5_destageAll_20 : decode cX5_destageAll 20 = .ok (.ireturn, 1) := by decide +kernel
theorem dX5_destageAll_21 : decode cX5_destageAll 21 = .ok (.aload_n 0, 1) := by decide +kernel
theorem dX5_destageAll_22 : decode cX5_destageAll 22 = .ok (.invokevirtual 103, 3) := by decide +kernel
theorem dX5_destageAll_25 : decode cX5_destageAll 25 = .ok (.aload_n 0, 1) := by decide +kernel
theorem dX5_destageAll_26 : decode cX5_destageAll 26 = .ok (.invokevirtual 87, 3) := by decide +kernel
theorem dX5_destageAll_29 : decode cX5_destageAll 29 = .ok (.ireturn, 1) := by decide +kernel
set_option maxRecDepth 20000 in
theorem ggX5_pass_X5_in : GoodIn wsX5_pass wsX5_in := goodIn_r _ [4] (by decide +kernel) (by decide +kernel)
set_option maxRecDepth 20000 in
theorem gX5_pass_X5_in : GoodIn wsX5_pass (va_wsS RX5 20 yX5_in wsX5_in) := goodIn_app (goodIn_of _ (by decide +kernel)) ggX5_pass_X5_in
set_option maxRecDepth 20000 in
theorem ggX5_pass_X5_holds : GoodIn wsX5_pass wsX5_holds := goodIn_r _ [8, 9, 48, 49, 50, 51, 52, 53, 54, 55, 56] (by decide +kernel) (by decide +kernel)
set_option maxRecDepth 20000 in
theorem gX5_pass_X5_holds : GoodIn wsX5_pass (wsV RX5 100 RX5 yX5_holds wsX5_holds) := goodIn_app (goodIn_of _ (by decide +kernel)) ggX5_pass_X5_holds
set_option maxRecDepth 20000 in
theorem ggX5_pass_X5_keeps : GoodIn wsX5_pass wsX5_keeps := goodIn_r _ [13, 14, 15, 16, 17, 3, 18, 19, 48, 49, 50, 51, 52, 53, 54, 55, 56] (by decide +kernel) (by decide +kernel)
set_option maxRecDepth 20000 in
theorem gX5_pass_X5_keeps : GoodIn wsX5_pass (wsV RX5 103 RX5 yX5_keeps wsX5_keeps) := goodIn_app (goodIn_of _ (by decide +kernel)) ggX5_pass_X5_keeps
set_option maxRecDepth 20000 in
theorem ggX5_pass_X5_passes : GoodIn wsX5_pass wsX5_passes := goodIn_r _ [23, 19, 24, 25, 26, 3, 27, 28, 29, 30, 31, 32, 33, 34, 35, 36, 37, 38, 39, 40, 41, 42, 43, 44, 45, 46, 47, 48, 49, 50, 51, 52, 53, 54, 55, 56] (by decide +kernel) (by decide +kernel)
set_option maxRecDepth 20000 in
theorem gX5_pass_X5_passes : GoodIn wsX5_pass (wsV RX5 115 RX5 yX5_passes wsX5_passes) := goodIn_app (goodIn_of _ (by decide +kernel)) ggX5_pass_X5_passes
theorem dX5_pass_0 : decode cX5_pass 0 = .ok (.aload_n 0, 1) := by decide +kernel
theorem dX5_pass_1 : decode cX5_pass 1 = .ok (.iload_n 1, 1) := by decide +kernel
theorem dX5_pass_2 : decode cX5_pass 2 = .ok (.iconst 1, 1) := by decide +kernel
theorem dX5_pass_3 : decode cX5_pass 3 = .ok (.bipush 99, 2) := by decide +kernel
theorem dX5_pass_5 : decode cX5_pass 5 = .ok (.invokestatic 20, 3) := by decide +kernel
theorem dX5_pass_8 : decode cX5_pass 8 = .ok (.ifCond .eq 7, 3) := by decide +kernel
theorem dX5_pass_11 : decode cX5_pass 11 = .ok (.iconst 0, 1) := by decide +kernel
theorem dX5_pass_12 : decode cX5_pass 12 = .ok (.goto 4, 3) := by decide +kernel
theorem dX5_pass_15 : decode cX5_pass 15 = .ok (.iconst 1, 1) := by decide +kernel
theorem dX5_pass_16 : decode cX5_pass 16 = .ok (.invokevirtual 100, 3) := by decide +kernel
theorem dX5_pass_19 : decode cX5_pass 19 = .ok (.ifCond .ne 5, 3) := by decide +kernel
theorem dX5_pass_22 : decode cX5_pass 22 = .ok (.iconst 0, 1) := by decide +kernel
theorem dX5_pass_23 : decode cX5_pass 23 = .ok (.ireturn, 1) := by decide +kernel
theorem dX5_pass_24 : decode cX5_pass 24 = .ok (.aload_n 0, 1) := by decide +kernel
theorem dX5_pass_25 : decode cX5_pass 25 = .ok (.invokevirtual 103, 3) := by decide +kernel
theorem dX5_pass_28 : decode cX5_pass 28 = .ok (.aload_n 0, 1) := by decide +kernel
theorem dX5_pass_29 : decode cX5_pass 29 = .ok (.iload_n 1, 1) := by decide +kernel
theorem dX5_pass_30 : decode cX5_pass 30 = .ok (.invokevirtual 115, 3) := by decide +kernel
theorem dX5_pass_33 : decode cX5_pass 33 = .ok (.ireturn, 1) := by decide +kernel
set_option maxRecDepth 20000 in
theorem ggX5_setLimit_X5_in : GoodIn wsX5_setLimit wsX5_in := goodIn_r _ [5] (by decide +kernel) (by decide +kernel)
set_option maxRecDepth 20000 in
theorem gX5_setLimit_X5_in : GoodIn wsX5_setLimit (va_wsS RX5 20 yX5_in wsX5_in) := goodIn_app (goodIn_of _ (by decide +kernel)) ggX5_setLimit_X5_in
set_option maxRecDepth 20000 in
theorem ggX5_setLimit_X5_holds : GoodIn wsX5_setLimit wsX5_holds := goodIn_r _ [9, 10, 20, 21, 22, 23, 24, 25, 26, 27, 28] (by decide +kernel) (by decide +kernel)
set_option maxRecDepth 20000 in
theorem gX5_setLimit_X5_holds : GoodIn wsX5_setLimit (wsV RX5 100 RX5 yX5_holds wsX5_holds) := goodIn_app (goodIn_of _ (by decide +kernel)) ggX5_setLimit_X5_holds
set_option maxRecDepth 20000 in
theorem ggX5_setLimit_X5_keeps : GoodIn wsX5_setLimit wsX5_keeps := goodIn_r _ [14, 15, 16, 17, 18, 4, 19, 1, 20, 21, 22, 23, 24, 25, 26, 27, 28] (by decide +kernel) (by decide +kernel)
set_option maxRecDepth 20000 in
theorem gX5_setLimit_X5_keeps : GoodIn wsX5_setLimit (wsV RX5 103 RX5 yX5_keeps wsX5_keeps) := goodIn_app (goodIn_of _ (by decide +kernel)) ggX5_setLimit_X5_keeps
theorem dX5_setLimit_0 : decode cX5_setLimit 0 = .ok (.aload_n 0, 1) := by decide +kernel
theorem dX5_setLimit_1 : decode cX5_setLimit 1 = .ok (.iload_n 1, 1) := by decide +kernel
theorem dX5_setLimit_2 : decode cX5_setLimit 2 = .ok (.iconst 1, 1) := by decide +kernel
theorem dX5_setLimit_3 : decode cX5_setLimit 3 = .ok (.bipush 100, 2) := by decide +kernel
theorem dX5_setLimit_5 : decode cX5_setLimit 5 = .ok (.invokestatic 20, 3) := by decide +kernel
theorem dX5_setLimit_8 : decode cX5_setLimit 8 = .ok (.ifCond .eq 7, 3) := by decide +kernel
theorem dX5_setLimit_11 : decode cX5_setLimit 11 = .ok (.iconst 0, 1) := by decide +kernel
theorem dX5_setLimit_12 : decode cX5_setLimit 12 = .ok (.goto 4, 3) := by decide +kernel
theorem dX5_setLimit_15 : decode cX5_setLimit 15 = .ok (.iconst 1, 1) := by decide +kernel
theorem dX5_setLimit_16 : decode cX5_setLimit 16 = .ok (.invokevirtual 100, 3) := by decide +kernel
theorem dX5_setLimit_19 : decode cX5_setLimit 19 = .ok (.ifCond .ne 5, 3) := by decide +kernel
theorem dX5_setLimit_22 : decode cX5_setLimit 22 = .ok (.iconst 0, 1) := by decide +kernel
theorem dX5_setLimit_23 : decode cX5_setLimit 23 = .ok (.ireturn, 1) := by decide +kernel
theorem dX5_setLimit_24 : decode cX5_setLimit 24 = .ok (.aload_n 0, 1) := by decide +kernel
theorem dX5_setLimit_25 : decode cX5_setLimit 25 = .ok (.invokevirtual 103, 3) := by decide +kernel
theorem dX5_setLimit_28 : decode cX5_setLimit 28 = .ok (.aload_n 0, 1) := by decide +kernel
theorem dX5_setLimit_29 : decode cX5_setLimit 29 = .ok (.getfield 7, 3) := by decide +kernel
theorem dX5_setLimit_32 : decode cX5_setLimit 32 = .ok (.iconst 2, 1) := by decide +kernel
theorem dX5_setLimit_33 : decode cX5_setLimit 33 = .ok (.iload_n 1, 1) := by decide +kernel
theorem dX5_setLimit_34 : decode cX5_setLimit 34 = .ok (.iastore, 1) := by decide +kernel
theorem dX5_setLimit_35 : decode cX5_setLimit 35 = .ok (.aload_n 0, 1) := by decide +kernel
theorem dX5_setLimit_36 : decode cX5_setLimit 36 = .ok (.getfield 7, 3) := by decide +kernel
theorem dX5_setLimit_39 : decode cX5_setLimit 39 = .ok (.iconst 3, 1) := by decide +kernel
theorem dX5_setLimit_40 : decode cX5_setLimit 40 = .ok (.aload_n 0, 1) := by decide +kernel
theorem dX5_setLimit_41 : decode cX5_setLimit 41 = .ok (.getfield 7, 3) := by decide +kernel
theorem dX5_setLimit_44 : decode cX5_setLimit 44 = .ok (.iconst 3, 1) := by decide +kernel
theorem dX5_setLimit_45 : decode cX5_setLimit 45 = .ok (.iaload, 1) := by decide +kernel
theorem dX5_setLimit_46 : decode cX5_setLimit 46 = .ok (.iload_n 1, 1) := by decide +kernel
theorem dX5_setLimit_47 : decode cX5_setLimit 47 = .ok (.if_icmp .le 7, 3) := by decide +kernel
theorem dX5_setLimit_50 : decode cX5_setLimit 50 = .ok (.iload_n 1, 1) := by decide +kernel
theorem dX5_setLimit_51 : decode cX5_setLimit 51 = .ok (.goto 9, 3) := by decide +kernel
theorem dX5_setLimit_54 : decode cX5_setLimit 54 = .ok (.aload_n 0, 1) := by decide +kernel
theorem dX5_setLimit_55 : decode cX5_setLimit 55 = .ok (.getfield 7, 3) := by decide +kernel
theorem dX5_setLimit_58 : decode cX5_setLimit 58 = .ok (.iconst 3, 1) := by decide +kernel
theorem dX5_setLimit_59 : decode cX5_setLimit 59 = .ok (.iaload, 1) := by decide +kernel
theorem dX5_setLimit_60 : decode cX5_setLimit 60 = .ok (.iastore, 1) := by decide +kernel
theorem dX5_setLimit_61 : decode cX5_setLimit 61 = .ok (.aload_n 0, 1) := by decide +kernel
theorem dX5_setLimit_62 : decode cX5_setLimit 62 = .ok (.getfield 7, 3) := by decide +kernel
theorem dX5_setLimit_65 : decode cX5_setLimit 65 = .ok (.iconst 3, 1) := by decide +kernel
theorem dX5_setLimit_66 : decode cX5_setLimit 66 = .ok (.iaload, 1) := by decide +kernel
theorem dX5_setLimit_67 : decode cX5_setLimit 67 = .ok (.ireturn, 1) := by decide +kernel
set_option maxRecDepth 20000 in
theorem ggX5_power_X5_keeps : GoodIn wsX5_power wsX5_keeps := goodIn_r _ [6, 7, 8, 9, 10, 5, 11, 12, 52, 53, 54, 55, 56, 57, 58, 59, 60] (by decide +kernel) (by decide +kernel)
set_option maxRecDepth 20000 in
theorem gX5_power_X5_keeps : GoodIn wsX5_power (wsV RX5 103 RX5 yX5_keeps wsX5_keeps) := goodIn_app (goodIn_of _ (by decide +kernel)) ggX5_power_X5_keeps
set_option maxRecDepth 20000 in
theorem ggX5_power_X5_powers : GoodIn wsX5_power wsX5_powers := goodIn_r _ [16, 12, 17, 18, 19, 5, 20, 21, 22, 23, 24, 25, 26, 27, 28, 29, 30, 31, 32, 33, 34, 35, 36, 37, 38, 39, 40, 41, 42, 43, 44, 45, 46, 47, 48, 49, 50, 51, 52, 53, 54, 55, 56, 57, 58, 59, 60] (by decide +kernel) (by decide +kernel)
set_option maxRecDepth 20000 in
theorem gX5_power_X5_powers : GoodIn wsX5_power (wsV RX5 118 RX5 yX5_powers wsX5_powers) := goodIn_app (goodIn_of _ (by decide +kernel)) ggX5_power_X5_powers
theorem dX5_power_0 : decode cX5_power 0 = .ok (.aload_n 0, 1) := by decide +kernel
theorem dX5_power_1 : decode cX5_power 1 = .ok (.iconst 0, 1) := by decide +kernel
theorem dX5_power_2 : decode cX5_power 2 = .ok (.putfield 16, 3) := by decide +kernel
theorem dX5_power_5 : decode cX5_power 5 = .ok (.aload_n 0, 1) := by decide +kernel
theorem dX5_power_6 : decode cX5_power 6 = .ok (.invokevirtual 103, 3) := by decide +kernel
theorem dX5_power_9 : decode cX5_power 9 = .ok (.aload_n 0, 1) := by decide +kernel
theorem dX5_power_10 : decode cX5_power 10 = .ok (.iload_n 1, 1) := by decide +kernel
theorem dX5_power_11 : decode cX5_power 11 = .ok (.invokevirtual 118, 3) := by decide +kernel
theorem dX5_power_14 : decode cX5_power 14 = .ok (.ireturn, 1) := by decide +kernel
set_option maxRecDepth 20000 in
theorem ggX5_moveStick_X5_holds : GoodIn wsX5_moveStick wsX5_holds := goodIn_r _ [6, 7, 33, 34, 35, 36, 37, 38, 39, 40, 41] (by decide +kernel) (by decide +kernel)
set_option maxRecDepth 20000 in
theorem gX5_moveStick_X5_holds : GoodIn wsX5_moveStick (wsV RX5 100 RX5 yX5_holds wsX5_holds) := goodIn_app (goodIn_of _ (by decide +kernel)) ggX5_moveStick_X5_holds
set_option maxRecDepth 20000 in
theorem ggX5_moveStick_X5_keeps : GoodIn wsX5_moveStick wsX5_keeps := goodIn_r _ [11, 12, 13, 14, 15, 5, 16, 1, 33, 34, 35, 36, 37, 38, 39, 40, 41] (by decide +kernel) (by decide +kernel)
set_option maxRecDepth 20000 in
theorem gX5_moveStick_X5_keeps : GoodIn wsX5_moveStick (wsV RX5 103 RX5 yX5_keeps wsX5_keeps) := goodIn_app (goodIn_of _ (by decide +kernel)) ggX5_moveStick_X5_keeps
set_option maxRecDepth 20000 in
theorem ggX5_moveStick_X5_movesStick : GoodIn wsX5_moveStick wsX5_movesStick := goodIn_r _ [20, 1, 21, 22, 23, 5, 24, 25, 26, 27, 28, 29, 30, 31, 32, 33, 34, 35, 36, 37, 38, 39, 40, 41] (by decide +kernel) (by decide +kernel)
set_option maxRecDepth 20000 in
theorem gX5_moveStick_X5_movesStick : GoodIn wsX5_moveStick (wsV RX5 122 RX5 yX5_movesStick wsX5_movesStick) := goodIn_app (goodIn_of _ (by decide +kernel)) ggX5_moveStick_X5_movesStick
theorem dX5_moveStick_0 : decode cX5_moveStick 0 = .ok (.aload_n 0, 1) := by decide +kernel
theorem dX5_moveStick_1 : decode cX5_moveStick 1 = .ok (.aload_n 0, 1) := by decide +kernel
theorem dX5_moveStick_2 : decode cX5_moveStick 2 = .ok (.getfield 7, 3) := by decide +kernel
theorem dX5_moveStick_5 : decode cX5_moveStick 5 = .ok (.iconst 1, 1) := by decide +kernel
theorem dX5_moveStick_6 : decode cX5_moveStick 6 = .ok (.iaload, 1) := by decide +kernel
theorem dX5_moveStick_7 : decode cX5_moveStick 7 = .ok (.ifCond .ne 7, 3) := by decide +kernel
theorem dX5_moveStick_10 : decode cX5_moveStick 10 = .ok (.iconst 0, 1) := by decide +kernel
theorem dX5_moveStick_11 : decode cX5_moveStick 11 = .ok (.goto 4, 3) := by decide +kernel
theorem dX5_moveStick_14 : decode cX5_moveStick 14 = .ok (.iconst 1, 1) := by decide +kernel
theorem dX5_moveStick_15 : decode cX5_moveStick 15 = .ok (.invokevirtual 100, 3) := by decide +kernel
theorem dX5_moveStick_18 : decode cX5_moveStick 18 = .ok (.ifCond .ne 5, 3) := by decide +kernel
theorem dX5_moveStick_21 : decode cX5_moveStick 21 = .ok (.iconst 0, 1) := by decide +kernel
theorem dX5_moveStick_22 : decode cX5_moveStick 22 = .ok (.ireturn, 1) := by decide +kernel
theorem dX5_moveStick_23 : decode cX5_moveStick 23 = .ok (.aload_n 0, 1) := by decide +kernel
theorem dX5_moveStick_24 : decode cX5_moveStick 24 = .ok (.invokevirtual 103, 3) := by decide +kernel
theorem dX5_moveStick_27 : decode cX5_moveStick 27 = .ok (.aload_n 0, 1) := by decide +kernel
theorem dX5_moveStick_28 : decode cX5_moveStick 28 = .ok (.iload_n 1, 1) := by decide +kernel
theorem dX5_moveStick_29 : decode cX5_moveStick 29 = .ok (.invokevirtual 122, 3) := by decide +kernel
theorem dX5_moveStick_32 : decode cX5_moveStick 32 = .ok (.ireturn, 1) := by decide +kernel
set_option maxRecDepth 20000 in
theorem ggX5_appendText_X5_in : GoodIn wsX5_appendText wsX5_in := goodIn_r _ [6] (by decide +kernel) (by decide +kernel)
set_option maxRecDepth 20000 in
theorem gX5_appendText_X5_in : GoodIn wsX5_appendText (va_wsS RX5 20 yX5_in wsX5_in) := goodIn_app (goodIn_of _ (by decide +kernel)) ggX5_appendText_X5_in
set_option maxRecDepth 20000 in
theorem ggX5_appendText_X5_holds : GoodIn wsX5_appendText wsX5_holds := goodIn_r _ [10, 11, 12, 13, 14, 15, 16, 17, 18, 19, 20] (by decide +kernel) (by decide +kernel)
set_option maxRecDepth 20000 in
theorem gX5_appendText_X5_holds : GoodIn wsX5_appendText (wsV RX5 100 RX5 yX5_holds wsX5_holds) := goodIn_app (goodIn_of _ (by decide +kernel)) ggX5_appendText_X5_holds
theorem dX5_appendText_0 : decode cX5_appendText 0 = .ok (.aload_n 0, 1) := by decide +kernel
theorem dX5_appendText_1 : decode cX5_appendText 1 = .ok (.iload_n 1, 1) := by decide +kernel
theorem dX5_appendText_2 : decode cX5_appendText 2 = .ok (.bipush 32, 2) := by decide +kernel
theorem dX5_appendText_4 : decode cX5_appendText 4 = .ok (.bipush 126, 2) := by decide +kernel
theorem dX5_appendText_6 : decode cX5_appendText 6 = .ok (.invokestatic 20, 3) := by decide +kernel
theorem dX5_appendText_9 : decode cX5_appendText 9 = .ok (.ifCond .ne 7, 3) := by decide +kernel
theorem dX5_appendText_12 : decode cX5_appendText 12 = .ok (.iconst 1, 1) := by decide +kernel
theorem dX5_appendText_13 : decode cX5_appendText 13 = .ok (.goto 17, 3) := by decide +kernel
theorem dX5_appendText_16 : decode cX5_appendText 16 = .ok (.aload_n 0, 1) := by decide +kernel
theorem dX5_appendText_17 : decode cX5_appendText 17 = .ok (.getfield 125, 3) := by decide +kernel
theorem dX5_appendText_20 : decode cX5_appendText 20 = .ok (.bipush 80, 2) := by decide +kernel
theorem dX5_appendText_22 : decode cX5_appendText 22 = .ok (.if_icmp .ne 7, 3) := by decide +kernel
theorem dX5_appendText_25 : decode cX5_appendText 25 = .ok (.iconst 2, 1) := by decide +kernel
theorem dX5_appendText_26 : decode cX5_appendText 26 = .ok (.goto 4, 3) := by decide +kernel
theorem dX5_appendText_29 : decode cX5_appendText 29 = .ok (.iconst 0, 1) := by decide +kernel
theorem dX5_appendText_30 : decode cX5_appendText 30 = .ok (.invokevirtual 100, 3) := by decide +kernel
theorem dX5_appendText_33 : decode cX5_appendText 33 = .ok (.ifCond .ne 5, 3) := by decide +kernel
theorem dX5_appendText_36 : decode cX5_appendText 36 = .ok (.iconst 0, 1) := by decide +kernel
theorem dX5_appendText_37 : decode cX5_appendText 37 = .ok (.ireturn, 1) := by decide +kernel
theorem dX5_appendText_38 : decode cX5_appendText 38 = .ok (.aload_n 0, 1) := by decide +kernel
theorem dX5_appendText_39 : decode cX5_appendText 39 = .ok (.getfield 13, 3) := by decide +kernel
theorem dX5_appendText_42 : decode cX5_appendText 42 = .ok (.aload_n 0, 1) := by decide +kernel
theorem dX5_appendText_43 : decode cX5_appendText 43 = .ok (.getfield 125, 3) := by decide +kernel
theorem dX5_appendText_46 : decode cX5_appendText 46 = .ok (.iload_n 1, 1) := by decide +kernel
theorem dX5_appendText_47 : decode cX5_appendText 47 = .ok (.iastore, 1) := by decide +kernel
theorem dX5_appendText_48 : decode cX5_appendText 48 = .ok (.aload_n 0, 1) := by decide +kernel
theorem dX5_appendText_49 : decode cX5_appendText 49 = .ok (.dup, 1) := by decide +kernel
theorem dX5_appendText_50 : decode cX5_appendText 50 = .ok (.getfield 125, 3) := by decide +kernel
theorem dX5_appendText_53 : decode cX5_appendText 53 = .ok (.iconst 1, 1) := by decide +kernel
theorem dX5_appendText_54 : decode cX5_appendText 54 = .ok (.iadd, 1) := by decide +kernel
theorem dX5_appendText_55 : decode cX5_appendText 55 = .ok (.putfield 125, 3) := by decide +kernel
theorem dX5_appendText_58 : decode cX5_appendText 58 = .ok (.aload_n 0, 1) := by decide +kernel
theorem dX5_appendText_59 : decode cX5_appendText 59 = .ok (.getfield 125, 3) := by decide +kernel
theorem dX5_appendText_62 : decode cX5_appendText 62 = .ok (.ireturn, 1) := by decide +kernel
theorem dX5_clearText_0 : decode cX5_clearText 0 = .ok (.aload_n 0, 1) := by decide +kernel
theorem dX5_clearText_1 : decode cX5_clearText 1 = .ok (.iconst 0, 1) := by decide +kernel
theorem dX5_clearText_2 : decode cX5_clearText 2 = .ok (.putfield 16, 3) := by decide +kernel
theorem dX5_clearText_5 : decode cX5_clearText 5 = .ok (.aload_n 0, 1) := by decide +kernel
theorem dX5_clearText_6 : decode cX5_clearText 6 = .ok (.getfield 125, 3) := by decide +kernel
theorem dX5_clearText_9 : decode cX5_clearText 9 = .ok (.istore_n 1, 1) := by decide +kernel
theorem dX5_clearText_10 : decode cX5_clearText 10 = .ok (.aload_n 0, 1) := by decide +kernel
theorem dX5_clearText_11 : decode cX5_clearText 11 = .ok (.iconst 0, 1) := by decide +kernel
theorem dX5_clearText_12 : decode cX5_clearText 12 = .ok (.putfield 125, 3) := by decide +kernel
theorem dX5_clearText_15 : decode cX5_clearText 15 = .ok (.iload_n 1, 1) := by decide +kernel
theorem dX5_clearText_16 : decode cX5_clearText 16 = .ok (.ireturn, 1) := by decide +kernel
theorem dX5_sign_0 : decode cX5_sign 0 = .ok (.aload_n 0, 1) := by decide +kernel
theorem dX5_sign_1 : decode cX5_sign 1 = .ok (.getfield 128, 3) := by decide +kernel
theorem dX5_sign_4 : decode cX5_sign 4 = .ok (.aload_n 0, 1) := by decide +kernel
theorem dX5_sign_5 : decode cX5_sign 5 = .ok (.getfield 125, 3) := by decide +kernel
theorem dX5_sign_8 : decode cX5_sign 8 = .ok (.if_icmp .ge 15, 3) := by decide +kernel
theorem dX5_sign_11 : decode cX5_sign 11 = .ok (.aload_n 0, 1) := by decide +kernel
theorem dX5_sign_12 : decode cX5_sign 12 = .ok (.getfield 13, 3) := by decide +kernel
theorem dX5_sign_15 : decode cX5_sign 15 = .ok (.aload_n 0, 1) := by decide +kernel
theorem dX5_sign_16 : decode cX5_sign 16 = .ok (.getfield 128, 3) := by decide +kernel
theorem dX5_sign_19 : decode cX5_sign 19 = .ok (.iaload, 1) := by decide +kernel
theorem dX5_sign_20 : decode cX5_sign 20 = .ok (.goto 4, 3) := by decide +kernel
theorem dX5_sign_23 : decode cX5_sign 23 = .ok (.iconst 0, 1) := by decide +kernel
theorem dX5_sign_24 : decode cX5_sign 24 = .ok (.ireturn, 1) := by decide +kernel
set_option maxRecDepth 20000 in
theorem ggX5_takes_X5_sign : GoodIn wsX5_takes wsX5_sign := goodIn_r _ [6, 1, 7, 8, 9, 10, 11, 12, 13, 14, 15, 16, 17] (by decide +kernel) (by decide +kernel)
set_option maxRecDepth 20000 in
theorem gX5_takes_X5_sign : GoodIn wsX5_takes (wsV RX5 131 RX5 yX5_sign wsX5_sign) := goodIn_app (goodIn_of _ (by decide +kernel)) ggX5_takes_X5_sign
theorem dX5_takes_0 : decode cX5_takes 0 = .ok (.aload_n 0, 1) := by decide +kernel
theorem dX5_takes_1 : decode cX5_takes 1 = .ok (.invokevirtual 131, 3) := by decide +kernel
theorem dX5_takes_4 : decode cX5_takes 4 = .ok (.iload_n 1, 1) := by decide +kernel
theorem dX5_takes_5 : decode cX5_takes 5 = .ok (.if_icmp .ne 7, 3) := by decide +kernel
theorem dX5_takes_8 : decode cX5_takes 8 = .ok (.iconst 1, 1) := by decide +kernel
theorem dX5_takes_9 : decode cX5_takes 9 = .ok (.goto 4, 3) := by decide +kernel
theorem dX5_takes_12 : decode cX5_takes 12 = .ok (.iconst 0, 1) := by decide +kernel
theorem dX5_takes_13 : decode cX5_takes 13 = .ok (.istore_n 2, 1) := by decide +kernel
theorem dX5_takes_14 : decode cX5_takes 14 = .ok (.aload_n 0, 1) := by decide +kernel
theorem dX5_takes_15 : decode cX5_takes 15 = .ok (.dup, 1) := by decide +kernel
theorem dX5_takes_16 : decode cX5_takes 16 = .ok (.getfield 128, 3) := by decide +kernel
theorem dX5_takes_19 : decode cX5_takes 19 = .ok (.iload_n 2, 1) := by decide +kernel
theorem dX5_takes_20 : decode cX5_takes 20 = .ok (.ifCond .eq 7, 3) := by decide +kernel
theorem dX5_takes_23 : decode cX5_takes 23 = .ok (.iconst 1, 1) := by decide +kernel
theorem dX5_takes_24 : decode cX5_takes 24 = .ok (.goto 4, 3) := by decide +kernel
theorem dX5_takes_27 : decode cX5_takes 27 = .ok (.iconst 0, 1) := by decide +kernel
theorem dX5_takes_28 : decode cX5_takes 28 = .ok (.iadd, 1) := by decide +kernel
theorem dX5_takes_29 : decode cX5_takes 29 = .ok (.putfield 128, 3) := by decide +kernel
theorem dX5_takes_32 : decode cX5_takes 32 = .ok (.iload_n 2, 1) := by decide +kernel
theorem dX5_takes_33 : decode cX5_takes 33 = .ok (.ireturn, 1) := by decide +kernel
set_option maxRecDepth 20000 in
theorem ggX5_number_X5_sign : GoodIn wsX5_number wsX5_sign := goodIn_r _ [6, 1, 7, 8, 12, 13, 14, 15, 16, 17, 18, 19, 20] (by decide +kernel) (by decide +kernel)
set_option maxRecDepth 20000 in
theorem gX5_number_X5_sign : GoodIn wsX5_number (wsV RX5 131 RX5 yX5_sign wsX5_sign) := goodIn_app (goodIn_of _ (by decide +kernel)) ggX5_number_X5_sign
set_option maxRecDepth 20000 in
theorem ggX5_number_X5_in : GoodIn wsX5_number wsX5_in := goodIn_r _ [11] (by decide +kernel) (by decide +kernel)
set_option maxRecDepth 20000 in
theorem gX5_number_X5_in : GoodIn wsX5_number (va_wsS RX5 20 yX5_in wsX5_in) := goodIn_app (goodIn_of _ (by decide +kernel)) ggX5_number_X5_in
theorem dX5_number_0 : decode cX5_number 0 = .ok (.aload_n 0, 1) := by decide +kernel
theorem dX5_number_1 : decode cX5_number 1 = .ok (.invokevirtual 131, 3) := by decide +kernel
theorem dX5_number_4 : decode cX5_number 4 = .ok (.bipush 48, 2) := by decide +kernel
theorem dX5_number_6 : decode cX5_number 6 = .ok (.iload_n 1, 1) := by decide +kernel
theorem dX5_number_7 : decode cX5_number 7 = .ok (.iadd, 1) := by decide +kernel
theorem dX5_number_8 : decode cX5_number 8 = .ok (.bipush 57, 2) := by decide +kernel
theorem dX5_number_10 : decode cX5_number 10 = .ok (.invokestatic 20, 3) := by decide +kernel
theorem dX5_number_13 : decode cX5_number 13 = .ok (.ifCond .eq 13, 3) := by decide +kernel
theorem dX5_number_16 : decode cX5_number 16 = .ok (.aload_n 0, 1) := by decide +kernel
theorem dX5_number_17 : decode cX5_number 17 = .ok (.invokevirtual 131, 3) := by decide +kernel
theorem dX5_number_20 : decode cX5_number 20 = .ok (.bipush 48, 2) := by decide +kernel
theorem dX5_number_22 : decode cX5_number 22 = .ok (.isub, 1) := by decide +kernel
theorem dX5_number_23 : decode cX5_number 23 = .ok (.goto 4, 3) := by decide +kernel
theorem dX5_number_26 : decode cX5_number 26 = .ok (.iconst (-1), 1) := by decide +kernel
theorem dX5_number_27 : decode cX5_number 27 = .ok (.istore_n 3, 1) := by decide +kernel
theorem dX5_number_28 : decode cX5_number 28 = .ok (.aload_n 0, 1) := by decide +kernel
theorem dX5_number_29 : decode cX5_number 29 = .ok (.dup, 1) := by decide +kernel
theorem dX5_number_30 : decode cX5_number 30 = .ok (.getfield 128, 3) := by decide +kernel
theorem dX5_number_33 : decode cX5_number 33 = .ok (.iload_n 3, 1) := by decide +kernel
theorem dX5_number_34 : decode cX5_number 34 = .ok (.iconst (-1), 1) := by decide +kernel
theorem dX5_number_35 : decode cX5_number 35 = .ok (.if_icmp .ne 7, 3) := by decide +kernel
theorem dX5_number_38 : decode cX5_number 38 = .ok (.iconst 0, 1) := by decide +kernel
theorem dX5_number_39 : decode cX5_number 39 = .ok (.goto 4, 3) := by decide +kernel
theorem dX5_number_42 : decode cX5_number 42 = .ok (.iconst 1, 1) := by decide +kernel
theorem dX5_number_43 : decode cX5_number 43 = .ok (.iadd, 1) := by decide +kernel
theorem dX5_number_44 : decode cX5_number 44 = .ok (.putfield 128, 3) := by decide +kernel
theorem dX5_number_47 : decode cX5_number 47 = .ok (.iload_n 3, 1) := by decide +kernel
theorem dX5_number_48 : decode cX5_number 48 = .ok (.ifCond .le 59, 3) := by decide +kernel
theorem dX5_number_51 : decode cX5_number 51 = .ok (.aload_n 0, 1) := by decide +kernel
theorem dX5_number_52 : decode cX5_number 52 = .ok (.invokevirtual 131, 3) := by decide +kernel
theorem dX5_number_55 : decode cX5_number 55 = .ok (.bipush 48, 2) := by decide +kernel
theorem dX5_number_57 : decode cX5_number 57 = .ok (.bipush 57, 2) := by decide +kernel
theorem dX5_number_59 : decode cX5_number 59 = .ok (.invokestatic 20, 3) := by decide +kernel
theorem dX5_number_62 : decode cX5_number 62 = .ok (.ifCond .eq 45, 3) := by decide +kernel
theorem dX5_number_65 : decode cX5_number 65 = .ok (.bipush 10, 2) := by decide +kernel
theorem dX5_number_67 : decode cX5_number 67 = .ok (.iload_n 3, 1) := by decide +kernel
theorem dX5_number_68 : decode cX5_number 68 = .ok (.imul, 1) := by decide +kernel
theorem dX5_number_69 : decode cX5_number 69 = .ok (.aload_n 0, 1) := by decide +kernel
theorem dX5_number_70 : decode cX5_number 70 = .ok (.invokevirtual 131, 3) := by decide +kernel
theorem dX5_number_73 : decode cX5_number 73 = .ok (.iadd, 1) := by decide +kernel
theorem dX5_number_74 : decode cX5_number 74 = .ok (.bipush 48, 2) := by decide +kernel
theorem dX5_number_76 : decode cX5_number 76 = .ok (.isub, 1) := by decide +kernel
theorem dX5_number_77 : decode cX5_number 77 = .ok (.iload_n 2, 1) := by decide +kernel
theorem dX5_number_78 : decode cX5_number 78 = .ok (.if_icmp .gt 29, 3) := by decide +kernel
theorem dX5_number_81 : decode cX5_number 81 = .ok (.bipush 10, 2) := by decide +kernel
theorem dX5_number_83 : decode cX5_number 83 = .ok (.iload_n 3, 1) := by decide +kernel
theorem dX5_number_84 : decode cX5_number 84 = .ok (.imul, 1) := by decide +kernel
theorem dX5_number_85 : decode cX5_number 85 = .ok (.aload_n 0, 1) := by decide +kernel
theorem dX5_number_86 : decode cX5_number 86 = .ok (.invokevirtual 131, 3) := by decide +kernel
theorem dX5_number_89 : decode cX5_number 89 = .ok (.iadd, 1) := by decide +kernel
theorem dX5_number_90 : decode cX5_number 90 = .ok (.bipush 48, 2) := by decide +kernel
theorem dX5_number_92 : decode cX5_number 92 = .ok (.isub, 1) := by decide +kernel
theorem dX5_number_93 : decode cX5_number 93 = .ok (.istore_n 3, 1) := by decide +kernel
theorem dX5_number_94 : decode cX5_number 94 = .ok (.aload_n 0, 1) := by decide +kernel
theorem dX5_number_95 : decode cX5_number 95 = .ok (.dup, 1) := by decide +kernel
theorem dX5_number_96 : decode cX5_number 96 = .ok (.getfield 128, 3) := by decide +kernel
theorem dX5_number_99 : decode cX5_number 99 = .ok (.iconst 1, 1) := by decide +kernel
theorem dX5_number_100 : decode cX5_number 100 = .ok (.iadd, 1) := by decide +kernel
theorem dX5_number_101 : decode cX5_number 101 = .ok (.putfield 128, 3) := by decide +kernel
theorem dX5_number_104 : decode cX5_number 104 = .ok (.goto (-57), 3) := by decide +kernel
theorem dX5_number_107 : decode cX5_number 107 = .ok (.iload_n 3, 1) := by decide +kernel
theorem dX5_number_108 : decode cX5_number 108 = .ok (.ireturn, 1) := by decide +kernel
set_option maxRecDepth 20000 in
theorem ggX5_readsCommand_X5_sign : GoodIn wsX5_readsCommand wsX5_sign := goodIn_r _ [8, 9, 10, 11, 23, 24, 25, 26, 27, 28, 29, 30, 31] (by decide +kernel) (by decide +kernel)
set_option maxRecDepth 20000 in
theorem gX5_readsCommand_X5_sign : GoodIn wsX5_readsCommand (wsV RX5 131 RX5 yX5_sign wsX5_sign) := goodIn_app (goodIn_of _ (by decide +kernel)) ggX5_readsCommand_X5_sign
set_option maxRecDepth 20000 in
theorem ggX5_readsCommand_X5_takes : GoodIn wsX5_readsCommand wsX5_takes := goodIn_r _ [15, 9, 4, 5, 6, 7, 8, 10, 11, 23, 24, 25, 26, 27, 28, 29, 30, 31] (by decide +kernel) (by decide +kernel)
set_option maxRecDepth 20000 in
theorem gX5_readsCommand_X5_takes : GoodIn wsX5_readsCommand (wsV RX5 137 RX5 yX5_takes wsX5_takes) := goodIn_app (goodIn_of _ (by decide +kernel)) ggX5_readsCommand_X5_takes
set_option maxRecDepth 20000 in
theorem ggX5_readsCommand_X5_number : GoodIn wsX5_readsCommand wsX5_number := goodIn_r _ [19, 9, 4, 5, 6, 7, 8, 10, 11, 20, 21, 22, 23, 24, 25, 26, 27, 28, 29, 30, 31] (by decide +kernel) (by decide +kernel)
set_option maxRecDepth 20000 in
theorem gX5_readsCommand_X5_number : GoodIn wsX5_readsCommand (wsV RX5 140 RX5 yX5_number wsX5_number) := goodIn_app (goodIn_of _ (by decide +kernel)) ggX5_readsCommand_X5_number
theorem dX5_readsCommand_0 : decode cX5_readsCommand 0 = .ok (.aload_n 0, 1) := by decide +kernel
theorem dX5_readsCommand_1 : decode cX5_readsCommand 1 = .ok (.aload_n 0, 1) := by decide +kernel
theorem dX5_readsCommand_2 : decode cX5_readsCommand 2 = .ok (.invokevirtual 131, 3) := by decide +kernel
theorem dX5_readsCommand_5 : decode cX5_readsCommand 5 = .ok (.putfield 134, 3) := by decide +kernel
theorem dX5_readsCommand_8 : decode cX5_readsCommand 8 = .ok (.aload_n 0, 1) := by decide +kernel
theorem dX5_readsCommand_9 : decode cX5_readsCommand 9 = .ok (.bipush 112, 2) := by decide +kernel
theorem dX5_readsCommand_11 : decode cX5_readsCommand 11 = .ok (.invokevirtual 137, 3) := by decide +kernel
theorem dX5_readsCommand_14 : decode cX5_readsCommand 14 = .ok (.ifCond .ne 12, 3) := by decide +kernel
theorem dX5_readsCommand_17 : decode cX5_readsCommand 17 = .ok (.aload_n 0, 1) := by decide +kernel
theorem dX5_readsCommand_18 : decode cX5_readsCommand 18 = .ok (.bipush 109, 2) := by decide +kernel
theorem dX5_readsCommand_20 : decode cX5_readsCommand 20 = .ok (.invokevirtual 137, 3) := by decide +kernel
theorem dX5_readsCommand_23 : decode cX5_readsCommand 23 = .ok (.ifCond .eq 5, 3) := by decide +kernel
theorem dX5_readsCommand_26 : decode cX5_readsCommand 26 = .ok (.iconst 1, 1) := by decide +kernel
theorem dX5_readsCommand_27 : decode cX5_readsCommand 27 = .ok (.ireturn, 1) := by decide +kernel
theorem dX5_readsCommand_28 : decode cX5_readsCommand 28 = .ok (.aload_n 0, 1) := by decide +kernel
theorem dX5_readsCommand_29 : decode cX5_readsCommand 29 = .ok (.bipush 119, 2) := by decide +kernel
theorem dX5_readsCommand_31 : decode cX5_readsCommand 31 = .ok (.invokevirtual 137, 3) := by decide +kernel
theorem dX5_readsCommand_34 : decode cX5_readsCommand 34 = .ok (.ifCond .eq 61, 3) := by decide +kernel
theorem dX5_readsCommand_37 : decode cX5_readsCommand 37 = .ok (.aload_n 0, 1) := by decide +kernel
theorem dX5_readsCommand_38 : decode cX5_readsCommand 38 = .ok (.aload_n 0, 1) := by decide +kernel
theorem dX5_readsCommand_39 : decode cX5_readsCommand 39 = .ok (.iconst 0, 1) := by decide +kernel
theorem dX5_readsCommand_40 : decode cX5_readsCommand 40 = .ok (.bipush 63, 2) := by decide +kernel
theorem dX5_readsCommand_42 : decode cX5_readsCommand 42 = .ok (.invokevirtual 140, 3) := by decide +kernel
theorem dX5_readsCommand_45 : decode cX5_readsCommand 45 = .ok (.putfield 143, 3) := by decide +kernel
theorem dX5_readsCommand_48 : decode cX5_readsCommand 48 = .ok (.aload_n 0, 1) := by decide +kernel
theorem dX5_readsCommand_49 : decode cX5_readsCommand 49 = .ok (.aload_n 0, 1) := by decide +kernel
theorem dX5_readsCommand_50 : decode cX5_readsCommand 50 = .ok (.getfield 143, 3) := by decide +kernel
theorem dX5_readsCommand_53 : decode cX5_readsCommand 53 = .ok (.iconst (-1), 1) := by decide +kernel
theorem dX5_readsCommand_54 : decode cX5_readsCommand 54 = .ok (.if_icmp .eq 23, 3) := by decide +kernel
theorem dX5_readsCommand_57 : decode cX5_readsCommand 57 = .ok (.aload_n 0, 1) := by decide +kernel
theorem dX5_readsCommand_58 : decode cX5_readsCommand 58 = .ok (.bipush 44, 2) := by decide +kernel
theorem dX5_readsCommand_60 : decode cX5_readsCommand 60 = .ok (.invokevirtual 137, 3) := by decide +kernel
theorem dX5_readsCommand_63 : decode cX5_readsCommand 63 = .ok (.ifCond .eq 14, 3) := by decide +kernel
theorem dX5_readsCommand_66 : decode cX5_readsCommand 66 = .ok (.aload_n 0, 1) := by decide +kernel
theorem dX5_readsCommand_67 : decode cX5_readsCommand 67 = .ok (.iconst 0, 1) := by decide +kernel
theorem dX5_readsCommand_68 : decode cX5_readsCommand 68 = .ok (.sipush 999, 3) := by decide +kernel
theorem dX5_readsCommand_71 : decode cX5_readsCommand 71 = .ok (.invokevirtual 140, 3) := by decide +kernel
theorem dX5_readsCommand_74 : decode cX5_readsCommand 74 = .ok (.goto 4, 3) := by decide +kernel
theorem dX5_readsCommand_77 : decode cX5_readsCommand 77 = .ok (.iconst (-1), 1) := by decide +kernel
theorem dX5_readsCommand_78 : decode cX5_readsCommand 78 = .ok (.putfield 146, 3) := by decide +kernel
theorem dX5_readsCommand_81 : decode cX5_readsCommand 81 = .ok (.aload_n 0, 1) := by decide +kernel
theorem dX5_readsCommand_82 : decode cX5_readsCommand 82 = .ok (.getfield 146, 3) := by decide +kernel
theorem dX5_readsCommand_85 : decode cX5_readsCommand 85 = .ok (.iconst (-1), 1) := by decide +kernel
theorem dX5_readsCommand_86 : decode cX5_readsCommand 86 = .ok (.if_icmp .eq 7, 3) := by decide +kernel
theorem dX5_readsCommand_89 : decode cX5_readsCommand 89 = .ok (.iconst 1, 1) := by decide +kernel
theorem dX5_readsCommand_90 : decode cX5_readsCommand 90 = .ok (.goto 4, 3) := by decide +kernel
theorem dX5_readsCommand_93 : decode cX5_readsCommand 93 = .ok (.iconst 0, 1) := by decide +kernel
theorem dX5_readsCommand_94 : decode cX5_readsCommand 94 = .ok (.ireturn, 1) := by decide +kernel
theorem dX5_readsCommand_95 : decode cX5_readsCommand 95 = .ok (.aload_n 0, 1) := by decide +kernel
theorem dX5_readsCommand_96 : decode cX5_readsCommand 96 = .ok (.bipush 114, 2) := by decide +kernel
theorem dX5_readsCommand_98 : decode cX5_readsCommand 98 = .ok (.invokevirtual 137, 3) := by decide +kernel
theorem dX5_readsCommand_101 : decode cX5_readsCommand 101 = .ok (.ifCond .eq 28, 3) := by decide +kernel
theorem dX5_readsCommand_104 : decode cX5_readsCommand 104 = .ok (.aload_n 0, 1) := by decide +kernel
theorem dX5_readsCommand_105 : decode cX5_readsCommand 105 = .ok (.aload_n 0, 1) := by decide +kernel
theorem dX5_readsCommand_106 : decode cX5_readsCommand 106 = .ok (.iconst 0, 1) := by decide +kernel
theorem dX5_readsCommand_107 : decode cX5_readsCommand 107 = .ok (.bipush 63, 2) := by decide +kernel
theorem dX5_readsCommand_109 : decode cX5_readsCommand 109 = .ok (.invokevirtual 140, 3) := by decide +kernel
theorem dX5_readsCommand_112 : decode cX5_readsCommand 112 = .ok (.putfield 143, 3) := by decide +kernel
theorem dX5_readsCommand_115 : decode cX5_readsCommand 115 = .ok (.aload_n 0, 1) := by decide +kernel
theorem dX5_readsCommand_116 : decode cX5_readsCommand 116 = .ok (.getfield 143, 3) := by decide +kernel
theorem dX5_readsCommand_119 : decode cX5_readsCommand 119 = .ok (.iconst (-1), 1) := by decide +kernel
theorem dX5_readsCommand_120 : decode cX5_readsCommand 120 = .ok (.if_icmp .eq 7, 3) := by decide +kernel
theorem dX5_readsCommand_123 : decode cX5_readsCommand 123 = .ok (.iconst 1, 1) := by decide +kernel
theorem dX5_readsCommand_124 : decode cX5_readsCommand 124 = .ok (.goto 4, 3) := by decide +kernel
theorem dX5_readsCommand_127 : decode cX5_readsCommand 127 = .ok (.iconst 0, 1) := by decide +kernel
theorem dX5_readsCommand_128 : decode cX5_readsCommand 128 = .ok (.ireturn, 1) := by decide +kernel
theorem dX5_readsCommand_129 : decode cX5_readsCommand 129 = .ok (.aload_n 0, 1) := by decide +kernel
theorem dX5_readsCommand_130 : decode cX5_readsCommand 130 = .ok (.bipush 100, 2) := by decide +kernel
theorem dX5_readsCommand_132 : decode cX5_readsCommand 132 = .ok (.invokevirtual 137, 3) := by decide +kernel
theorem dX5_readsCommand_135 : decode cX5_readsCommand 135 = .ok (.ifCond .eq 28, 3) := by decide +kernel
theorem dX5_readsCommand_138 : decode cX5_readsCommand 138 = .ok (.aload_n 0, 1) := by decide +kernel
theorem dX5_readsCommand_139 : decode cX5_readsCommand 139 = .ok (.aload_n 0, 1) := by decide +kernel
theorem dX5_readsCommand_140 : decode cX5_readsCommand 140 = .ok (.iconst 0, 1) := by decide +kernel
theorem dX5_readsCommand_141 : decode cX5_readsCommand 141 = .ok (.bipush 15, 2) := by decide +kernel
theorem dX5_readsCommand_143 : decode cX5_readsCommand 143 = .ok (.invokevirtual 140, 3) := by decide +kernel
theorem dX5_readsCommand_146 : decode cX5_readsCommand 146 = .ok (.putfield 143, 3) := by decide +kernel
theorem dX5_readsCommand_149 : decode cX5_readsCommand 149 = .ok (.aload_n 0, 1) := by decide +kernel
theorem dX5_readsCommand_150 : decode cX5_readsCommand 150 = .ok (.getfield 143, 3) := by decide +kernel
theorem dX5_readsCommand_153 : decode cX5_readsCommand 153 = .ok (.iconst (-1), 1) := by decide +kernel
theorem dX5_readsCommand_154 : decode cX5_readsCommand 154 = .ok (.if_icmp .eq 7, 3) := by decide +kernel
theorem dX5_readsCommand_157 : decode cX5_readsCommand 157 = .ok (.iconst 1, 1) := by decide +kernel
theorem dX5_readsCommand_158 : decode cX5_readsCommand 158 = .ok (.goto 4, 3) := by decide +kernel
theorem dX5_readsCommand_161 : decode cX5_readsCommand 161 = .ok (.iconst 0, 1) := by decide +kernel
theorem dX5_readsCommand_162 : decode cX5_readsCommand 162 = .ok (.ireturn, 1) := by decide +kernel
theorem dX5_readsCommand_163 : decode cX5_readsCommand 163 = .ok (.aload_n 0, 1) := by decide +kernel
theorem dX5_readsCommand_164 : decode cX5_readsCommand 164 = .ok (.aload_n 0, 1) := by decide +kernel
theorem dX5_readsCommand_165 : decode cX5_readsCommand 165 = .ok (.bipush 116, 2) := by decide +kernel
theorem dX5_readsCommand_167 : decode cX5_readsCommand 167 = .ok (.invokevirtual 137, 3) := by decide +kernel
theorem dX5_readsCommand_170 : decode cX5_readsCommand 170 = .ok (.ifCond .eq 13, 3) := by decide +kernel
theorem dX5_readsCommand_173 : decode cX5_readsCommand 173 = .ok (.aload_n 0, 1) := by decide +kernel
theorem dX5_readsCommand_174 : decode cX5_readsCommand 174 = .ok (.iconst 1, 1) := by decide +kernel
theorem dX5_readsCommand_175 : decode cX5_readsCommand 175 = .ok (.bipush 99, 2) := by decide +kernel
theorem dX5_readsCommand_177 : decode cX5_readsCommand 177 = .ok (.invokevirtual 140, 3) := by decide +kernel
theorem dX5_readsCommand_180 : decode cX5_readsCommand 180 = .ok (.goto 4, 3) := by decide +kernel
theorem dX5_readsCommand_183 : decode cX5_readsCommand 183 = .ok (.iconst (-1), 1) := by decide +kernel
theorem dX5_readsCommand_184 : decode cX5_readsCommand 184 = .ok (.putfield 143, 3) := by decide +kernel
theorem dX5_readsCommand_187 : decode cX5_readsCommand 187 = .ok (.aload_n 0, 1) := by decide +kernel
theorem dX5_readsCommand_188 : decode cX5_readsCommand 188 = .ok (.getfield 143, 3) := by decide +kernel
theorem dX5_readsCommand_191 : decode cX5_readsCommand 191 = .ok (.iconst (-1), 1) := by decide +kernel
theorem dX5_readsCommand_192 : decode cX5_readsCommand 192 = .ok (.if_icmp .eq 7, 3) := by decide +kernel
theorem dX5_readsCommand_195 : decode cX5_readsCommand 195 = .ok (.iconst 1, 1) := by decide +kernel
theorem dX5_readsCommand_196 : decode cX5_readsCommand 196 = .ok (.goto 4, 3) := by decide +kernel
theorem dX5_readsCommand_199 : decode cX5_readsCommand 199 = .ok (.iconst 0, 1) := by decide +kernel
theorem dX5_readsCommand_200 : decode cX5_readsCommand 200 = .ok (.ireturn, 1) := by decide +kernel
set_option maxRecDepth 20000 in
theorem ggX5_isValid_X5_readsCommand : GoodIn wsX5_isValid wsX5_readsCommand := goodIn_r _ [7, 8, 9, 10, 11, 12, 13, 6, 14, 1, 2, 15, 16, 17, 18, 19, 20, 21, 22, 23, 24, 25, 26, 27, 28, 29, 30, 31, 32, 33, 34, 35] (by decide +kernel) (by decide +kernel)
set_option maxRecDepth 20000 in
theorem gX5_isValid_X5_readsCommand : GoodIn wsX5_isValid (wsV RX5 149 RX5 yX5_readsCommand wsX5_readsCommand) := goodIn_app (goodIn_of _ (by decide +kernel)) ggX5_isValid_X5_readsCommand
set_option maxRecDepth 20000 in
theorem ggX5_isValid_X5_takes : GoodIn wsX5_isValid wsX5_takes := goodIn_r _ [19, 1, 11, 12, 13, 6, 14, 2, 15, 27, 28, 29, 30, 31, 32, 33, 34, 35] (by decide +kernel) (by decide +kernel)
set_option maxRecDepth 20000 in
theorem gX5_isValid_X5_takes : GoodIn wsX5_isValid (wsV RX5 137 RX5 yX5_takes wsX5_takes) := goodIn_app (goodIn_of _ (by decide +kernel)) ggX5_isValid_X5_takes
theorem dX5_isValid_0 : decode cX5_isValid 0 = .ok (.aload_n 0, 1) := by decide +kernel
theorem dX5_isValid_1 : decode cX5_isValid 1 = .ok (.iconst 0, 1) := by decide +kernel
theorem dX5_isValid_2 : decode cX5_isValid 2 = .ok (.putfield 128, 3) := by decide +kernel
theorem dX5_isValid_5 : decode cX5_isValid 5 = .ok (.aload_n 0, 1) := by decide +kernel
theorem dX5_isValid_6 : decode cX5_isValid 6 = .ok (.invokevirtual 149, 3) := by decide +kernel
theorem dX5_isValid_9 : decode cX5_isValid 9 = .ok (.ifCond .eq 27, 3) := by decide +kernel
theorem dX5_isValid_12 : decode cX5_isValid 12 = .ok (.aload_n 0, 1) := by decide +kernel
theorem dX5_isValid_13 : decode cX5_isValid 13 = .ok (.getfield 128, 3) := by decide +kernel
theorem dX5_isValid_16 : decode cX5_isValid 16 = .ok (.aload_n 0, 1) := by decide +kernel
theorem dX5_isValid_17 : decode cX5_isValid 17 = .ok (.getfield 125, 3) := by decide +kernel
theorem dX5_isValid_20 : decode cX5_isValid 20 = .ok (.if_icmp .ne 5, 3) := by decide +kernel
theorem dX5_isValid_23 : decode cX5_isValid 23 = .ok (.iconst 1, 1) := by decide +kernel
theorem dX5_isValid_24 : decode cX5_isValid 24 = .ok (.ireturn, 1) := by decide +kernel
theorem dX5_isValid_25 : decode cX5_isValid 25 = .ok (.aload_n 0, 1) := by decide +kernel
theorem dX5_isValid_26 : decode cX5_isValid 26 = .ok (.bipush 59, 2) := by decide +kernel
theorem dX5_isValid_28 : decode cX5_isValid 28 = .ok (.invokevirtual 137, 3) := by decide +kernel
theorem dX5_isValid_31 : decode cX5_isValid 31 = .ok (.ifCond .ne (-26), 3) := by decide +kernel
theorem dX5_isValid_34 : decode cX5_isValid 34 = .ok (.iconst 0, 1) := by decide +kernel
theorem dX5_isValid_35 : decode cX5_isValid 35 = .ok (.ireturn, 1) := by decide +kernel
theorem dX5_isValid_36 : decode cX5_isValid 36 = .ok (.iconst 0, 1) := by decide +kernel
theorem dX5_isValid_37 : decode cX5_isValid 37 = .ok (.ireturn, 1) := by decide +kernel
set_option maxRecDepth 20000 in
theorem ggX5_errorPosition_X5_isValid : GoodIn wsX5_errorPosition wsX5_isValid := goodIn_r _ [7, 2, 8, 9, 10, 11, 6, 12, 13, 14, 15, 16, 17, 18, 19, 20, 21, 22, 23, 24, 25, 26, 27, 28, 29, 30, 31, 32, 33, 34, 35, 36, 37, 38, 39, 40] (by decide +kernel) (by decide +kernel)
set_option maxRecDepth 20000 in
theorem gX5_errorPosition_X5_isValid : GoodIn wsX5_errorPosition (wsV RX5 152 RX5 yX5_isValid wsX5_isValid) := goodIn_app (goodIn_of _ (by decide +kernel)) ggX5_errorPosition_X5_isValid
theorem dX5_errorPosition_0 : decode cX5_errorPosition 0 = .ok (.aload_n 0, 1) := by decide +kernel
theorem dX5_errorPosition_1 : decode cX5_errorPosition 1 = .ok (.iconst 0, 1) := by decide +kernel
theorem dX5_errorPosition_2 : decode cX5_errorPosition 2 = .ok (.putfield 16, 3) := by decide +kernel
theorem dX5_errorPosition_5 : decode cX5_errorPosition 5 = .ok (.aload_n 0, 1) := by decide +kernel
theorem dX5_errorPosition_6 : decode cX5_errorPosition 6 = .ok (.invokevirtual 152, 3) := by decide +kernel
theorem dX5_errorPosition_9 : decode cX5_errorPosition 9 = .ok (.ifCond .eq 7, 3) := by decide +kernel
theorem dX5_errorPosition_12 : decode cX5_errorPosition 12 = .ok (.iconst (-1), 1) := by decide +kernel
theorem dX5_errorPosition_13 : decode cX5_errorPosition 13 = .ok (.goto 7, 3) := by decide +kernel
theorem dX5_errorPosition_16 : decode cX5_errorPosition 16 = .ok (.aload_n 0, 1) := by decide +kernel
theorem dX5_errorPosition_17 : decode cX5_errorPosition 17 = .ok (.getfield 128, 3) := by decide +kernel
theorem dX5_errorPosition_20 : decode cX5_errorPosition 20 = .ok (.ireturn, 1) := by decide +kernel
set_option maxRecDepth 20000 in
theorem ggX5_can_X5_isCharging : GoodIn wsX5_can wsX5_isCharging := goodIn_r _ [7, 2, 8, 9, 10, 11, 12, 13, 14, 15, 16] (by decide +kernel) (by decide +kernel)
set_option maxRecDepth 20000 in
theorem gX5_can_X5_isCharging : GoodIn wsX5_can (wsV RX5 78 RX5 yX5_isCharging wsX5_isCharging) := goodIn_app (goodIn_of _ (by decide +kernel)) ggX5_can_X5_isCharging
theorem dX5_can_0 : decode cX5_can 0 = .ok (.aload_n 0, 1) := by decide +kernel
theorem dX5_can_1 : decode cX5_can 1 = .ok (.getfield 134, 3) := by decide +kernel
theorem dX5_can_4 : decode cX5_can 4 = .ok (.lookupswitch 80 #[(100, 60), (109, 65), (114, 44), (119, 44)], 44) := by decide +kernel
theorem dX5_can_48 : decode cX5_can 48 = .ok (.aload_n 0, 1) := by decide +kernel
theorem dX5_can_49 : decode cX5_can 49 = .ok (.getfield 7, 3) := by decide +kernel
theorem dX5_can_52 : decode cX5_can 52 = .ok (.iconst 1, 1) := by decide +kernel
theorem dX5_can_53 : decode cX5_can 53 = .ok (.iaload, 1) := by decide +kernel
theorem dX5_can_54 : decode cX5_can 54 = .ok (.iconst 1, 1) := by decide +kernel
theorem dX5_can_55 : decode cX5_can 55 = .ok (.if_icmp .ne 7, 3) := by decide +kernel
theorem dX5_can_58 : decode cX5_can 58 = .ok (.iconst 1, 1) := by decide +kernel
theorem dX5_can_59 : decode cX5_can 59 = .ok (.goto 4, 3) := by decide +kernel
theorem dX5_can_62 : decode cX5_can 62 = .ok (.iconst 0, 1) := by decide +kernel
theorem dX5_can_63 : decode cX5_can 63 = .ok (.ireturn, 1) := by decide +kernel
theorem dX5_can_64 : decode cX5_can 64 = .ok (.aload_n 0, 1) := by decide +kernel
theorem dX5_can_65 : decode cX5_can 65 = .ok (.invokevirtual 78, 3) := by decide +kernel
theorem dX5_can_68 : decode cX5_can 68 = .ok (.ireturn, 1) := by decide +kernel
theorem dX5_can_69 : decode cX5_can 69 = .ok (.aload_n 0, 1) := by decide +kernel
theorem dX5_can_70 : decode cX5_can 70 = .ok (.getfield 7, 3) := by decide +kernel
theorem dX5_can_73 : decode cX5_can 73 = .ok (.iconst 1, 1) := by decide +kernel
theorem dX5_can_74 : decode cX5_can 74 = .ok (.iaload, 1) := by decide +kernel
theorem dX5_can_75 : decode cX5_can 75 = .ok (.ifCond .ne 7, 3) := by decide +kernel
theorem dX5_can_78 : decode cX5_can 78 = .ok (.iconst 1, 1) := by decide +kernel
theorem dX5_can_79 : decode cX5_can 79 = .ok (.goto 4, 3) := by decide +kernel
theorem dX5_can_82 : decode cX5_can 82 = .ok (.iconst 0, 1) := by decide +kernel
theorem dX5_can_83 : decode cX5_can 83 = .ok (.ireturn, 1) := by decide +kernel
theorem dX5_can_84 : decode cX5_can 84 = .ok (.iconst 1, 1) := by decide +kernel
theorem dX5_can_85 : decode cX5_can 85 = .ok (.ireturn, 1) := by decide +kernel
set_option maxRecDepth 20000 in
theorem ggX5_does_X5_writes : GoodIn wsX5_does wsX5_writes := goodIn_r _ [9, 4, 10, 11, 12, 8, 13, 14, 15, 16, 17, 18, 19, 20, 21, 22, 23, 24, 25, 26, 27, 28, 29, 30, 31, 32, 33, 34, 35, 36, 37, 38, 39, 40, 41, 42, 43, 44, 45, 46, 47, 48, 49, 50, 51, 52, 53, 54, 55, 56, 57, 58, 59, 60, 61, 62, 63, 64, 65, 66, 67, 68, 101, 102, 103, 104, 105, 106, 107, 108, 109] (by decide +kernel) (by decide +kernel)
set_option maxRecDepth 20000 in
theorem gX5_does_X5_writes : GoodIn wsX5_does (wsV RX5 106 RX5 yX5_writes wsX5_writes) := goodIn_app (goodIn_of _ (by decide +kernel)) ggX5_does_X5_writes
set_option maxRecDepth 20000 in
theorem ggX5_does_X5_reads : GoodIn wsX5_does wsX5_reads := goodIn_r _ [72, 4, 14, 15, 16, 8, 17, 18, 19, 20, 21, 54, 55, 56, 57, 101, 102, 103, 104, 105, 106, 107, 108, 109] (by decide +kernel) (by decide +kernel)
set_option maxRecDepth 20000 in
theorem gX5_does_X5_reads : GoodIn wsX5_does (wsV RX5 109 RX5 yX5_reads wsX5_reads) := goodIn_app (goodIn_of _ (by decide +kernel)) ggX5_does_X5_reads
set_option maxRecDepth 20000 in
theorem ggX5_does_X5_destages : GoodIn wsX5_does wsX5_destages := goodIn_r _ [49, 4, 42, 43, 44, 8, 45, 30, 31, 32, 33, 18, 19, 20, 21, 50, 51, 52, 53, 54, 55, 56, 57, 58, 59, 60, 61, 62, 63, 64, 101, 102, 103, 104, 105, 106, 107, 108, 109] (by decide +kernel) (by decide +kernel)
set_option maxRecDepth 20000 in
theorem gX5_does_X5_destages : GoodIn wsX5_does (wsV RX5 51 RX5 yX5_destages wsX5_destages) := goodIn_app (goodIn_of _ (by decide +kernel)) ggX5_does_X5_destages
set_option maxRecDepth 20000 in
theorem ggX5_does_X5_passes : GoodIn wsX5_does wsX5_passes := goodIn_r _ [76, 4, 77, 78, 79, 8, 80, 81, 82, 83, 84, 85, 86, 87, 88, 30, 31, 32, 33, 18, 19, 20, 21, 54, 55, 56, 57, 101, 102, 103, 104, 105, 106, 107, 108, 109] (by decide +kernel) (by decide +kernel)
set_option maxRecDepth 20000 in
theorem gX5_does_X5_passes : GoodIn wsX5_does (wsV RX5 115 RX5 yX5_passes wsX5_passes) := goodIn_app (goodIn_of _ (by decide +kernel)) ggX5_does_X5_passes
set_option maxRecDepth 20000 in
theorem ggX5_does_X5_powers : GoodIn wsX5_does wsX5_powers := goodIn_r _ [92, 4, 93, 94, 95, 8, 96, 46, 47, 48, 49, 42, 43, 44, 45, 30, 31, 32, 33, 18, 19, 20, 21, 50, 51, 52, 53, 54, 55, 56, 57, 58, 59, 60, 61, 62, 63, 64, 101, 102, 103, 104, 105, 106, 107, 108, 109] (by decide +kernel) (by decide +kernel)
set_option maxRecDepth 20000 in
theorem gX5_does_X5_powers : GoodIn wsX5_does (wsV RX5 118 RX5 yX5_powers wsX5_powers) := goodIn_app (goodIn_of _ (by decide +kernel)) ggX5_does_X5_powers
set_option maxRecDepth 20000 in
theorem ggX5_does_X5_movesStick : GoodIn wsX5_does wsX5_movesStick := goodIn_r _ [100, 4, 30, 31, 32, 8, 33, 18, 19, 20, 21, 54, 55, 56, 57, 101, 102, 103, 104, 105, 106, 107, 108, 109] (by decide +kernel) (by decide +kernel)
set_option maxRecDepth 20000 in
theorem gX5_does_X5_movesStick : GoodIn wsX5_does (wsV RX5 122 RX5 yX5_movesStick wsX5_movesStick) := goodIn_app (goodIn_of _ (by decide +kernel)) ggX5_does_X5_movesStick
theorem dX5_does_0 : decode cX5_does 0 = .ok (.aload_n 0, 1) := by decide +kernel
theorem dX5_does_1 : decode cX5_does 1 = .ok (.getfield 134, 3) := by decide +kernel
theorem dX5_does_4 : decode cX5_does 4 = .ok (.lookupswitch 126 #[(100, 80), (112, 104), (114, 68), (116, 92), (119, 52)], 52) := by decide +kernel
theorem dX5_does_56 : decode cX5_does 56 = .ok (.aload_n 0, 1) := by decide +kernel
theorem dX5_does_57 : decode cX5_does 57 = .ok (.aload_n 0, 1) := by decide +kernel
theorem dX5_does_58 : decode cX5_does 58 = .ok (.getfield 143, 3) := by decide +kernel
theorem dX5_does_61 : decode cX5_does 61 = .ok (.aload_n 0, 1) := by decide +kernel
theorem dX5_does_62 : decode cX5_does 62 = .ok (.getfield 146, 3) := by decide +kernel
theorem dX5_does_65 : decode cX5_does 65 = .ok (.invokevirtual 106, 3) := by decide +kernel
theorem dX5_does_68 : decode cX5_does 68 = .ok (.pop, 1) := by decide +kernel
theorem dX5_does_69 : decode cX5_does 69 = .ok (.goto 80, 3) := by decide +kernel
theorem dX5_does_72 : decode cX5_does 72 = .ok (.aload_n 0, 1) := by decide +kernel
theorem dX5_does_73 : decode cX5_does 73 = .ok (.aload_n 0, 1) := by decide +kernel
theorem dX5_does_74 : decode cX5_does 74 = .ok (.getfield 143, 3) := by decide +kernel
theorem dX5_does_77 : decode cX5_does 77 = .ok (.invokevirtual 109, 3) := by decide +kernel
theorem dX5_does_80 : decode cX5_does 80 = .ok (.pop, 1) := by decide +kernel
theorem dX5_does_81 : decode cX5_does 81 = .ok (.goto 68, 3) := by decide +kernel
theorem dX5_does_84 : decode cX5_does 84 = .ok (.aload_n 0, 1) := by decide +kernel
theorem dX5_does_85 : decode cX5_does 85 = .ok (.aload_n 0, 1) := by decide +kernel
theorem dX5_does_86 : decode cX5_does 86 = .ok (.getfield 143, 3) := by decide +kernel
theorem dX5_does_89 : decode cX5_does 89 = .ok (.invokevirtual 51, 3) := by decide +kernel
theorem dX5_does_92 : decode cX5_does 92 = .ok (.pop, 1) := by decide +kernel
theorem dX5_does_93 : decode cX5_does 93 = .ok (.goto 56, 3) := by decide +kernel
theorem dX5_does_96 : decode cX5_does 96 = .ok (.aload_n 0, 1) := by decide +kernel
theorem dX5_does_97 : decode cX5_does 97 = .ok (.aload_n 0, 1) := by decide +kernel
theorem dX5_does_98 : decode cX5_does 98 = .ok (.getfield 143, 3) := by decide +kernel
theorem dX5_does_101 : decode cX5_does 101 = .ok (.invokevirtual 115, 3) := by decide +kernel
theorem dX5_does_104 : decode cX5_does 104 = .ok (.pop, 1) := by decide +kernel
theorem dX5_does_105 : decode cX5_does 105 = .ok (.goto 44, 3) := by decide +kernel
theorem dX5_does_108 : decode cX5_does 108 = .ok (.aload_n 0, 1) := by decide +kernel
theorem dX5_does_109 : decode cX5_does 109 = .ok (.aload_n 0, 1) := by decide +kernel
theorem dX5_does_110 : decode cX5_does 110 = .ok (.getfield 7, 3) := by decide +kernel
theorem dX5_does_113 : decode cX5_does 113 = .ok (.iconst 1, 1) := by decide +kernel
theorem dX5_does_114 : decode cX5_does 114 = .ok (.iaload, 1) := by decide +kernel
theorem dX5_does_115 : decode cX5_does 115 = .ok (.ifCond .ne 7, 3) := by decide +kernel
theorem dX5_does_118 : decode cX5_does 118 = .ok (.iconst 1, 1) := by decide +kernel
theorem dX5_does_119 : decode cX5_does 119 = .ok (.goto 4, 3) := by decide +kernel
theorem dX5_does_122 : decode cX5_does 122 = .ok (.iconst 0, 1) := by decide +kernel
theorem dX5_does_123 : decode cX5_does 123 = .ok (.invokevirtual 118, 3) := by decide +kernel
theorem dX5_does_126 : decode cX5_does 126 = .ok (.pop, 1) := by decide +kernel
theorem dX5_does_127 : decode cX5_does 127 = .ok (.goto 22, 3) := by decide +kernel
theorem dX5_does_130 : decode cX5_does 130 = .ok (.aload_n 0, 1) := by decide +kernel
theorem dX5_does_131 : decode cX5_does 131 = .ok (.aload_n 0, 1) := by decide +kernel
theorem dX5_does_132 : decode cX5_does 132 = .ok (.getfield 7, 3) := by decide +kernel
theorem dX5_does_135 : decode cX5_does 135 = .ok (.iconst 0, 1) := by decide +kernel
theorem dX5_does_136 : decode cX5_does 136 = .ok (.iaload, 1) := by decide +kernel
theorem dX5_does_137 : decode cX5_does 137 = .ok (.ifCond .ne 7, 3) := by decide +kernel
theorem dX5_does_140 : decode cX5_does 140 = .ok (.iconst 1, 1) := by decide +kernel
theorem dX5_does_141 : decode cX5_does 141 = .ok (.goto 4, 3) := by decide +kernel
theorem dX5_does_144 : decode cX5_does 144 = .ok (.iconst 0, 1) := by decide +kernel
theorem dX5_does_145 : decode cX5_does 145 = .ok (.invokevirtual 122, 3) := by decide +kernel
theorem dX5_does_148 : decode cX5_does 148 = .ok (.pop, 1) := by decide +kernel
theorem dX5_does_149 : decode cX5_does 149 = .ok (.return_, 1) := by decide +kernel
set_option maxRecDepth 20000 in
theorem ggX5_runText_X5_isValid : GoodIn wsX5_runText wsX5_isValid := goodIn_r _ [6, 1, 7, 8, 9, 10, 5, 11, 12, 13, 14, 15, 16, 17, 18, 19, 20, 21, 22, 23, 24, 25, 26, 27, 28, 29, 30, 149, 150, 151, 152, 153, 154, 155, 156, 157] (by decide +kernel) (by decide +kernel)
set_option maxRecDepth 20000 in
theorem gX5_runText_X5_isValid : GoodIn wsX5_runText (wsV RX5 152 RX5 yX5_isValid wsX5_isValid) := goodIn_app (goodIn_of _ (by decide +kernel)) ggX5_runText_X5_isValid
set_option maxRecDepth 20000 in
theorem ggX5_runText_X5_holds : GoodIn wsX5_runText wsX5_holds := goodIn_r _ [34, 35, 149, 150, 151, 152, 153, 154, 155, 156, 157] (by decide +kernel) (by decide +kernel)
set_option maxRecDepth 20000 in
theorem gX5_runText_X5_holds : GoodIn wsX5_runText (wsV RX5 100 RX5 yX5_holds wsX5_holds) := goodIn_app (goodIn_of _ (by decide +kernel)) ggX5_runText_X5_holds
set_option maxRecDepth 20000 in
theorem ggX5_runText_X5_keeps : GoodIn wsX5_runText wsX5_keeps := goodIn_r _ [39, 40, 41, 42, 43, 5, 44, 45, 149, 150, 151, 152, 153, 154, 155, 156, 157] (by decide +kernel) (by decide +kernel)
set_option maxRecDepth 20000 in
theorem gX5_runText_X5_keeps : GoodIn wsX5_runText (wsV RX5 103 RX5 yX5_keeps wsX5_keeps) := goodIn_app (goodIn_of _ (by decide +kernel)) ggX5_runText_X5_keeps
set_option maxRecDepth 20000 in
theorem ggX5_runText_X5_readsCommand : GoodIn wsX5_runText wsX5_readsCommand := goodIn_r _ [11, 12, 13, 14, 15, 16, 17, 5, 18, 1, 7, 19, 20, 21, 22, 23, 24, 25, 26, 27, 28, 29, 30, 149, 150, 151, 152, 153, 154, 155, 156, 157] (by decide +kernel) (by decide +kernel)
set_option maxRecDepth 20000 in
theorem gX5_runText_X5_readsCommand : GoodIn wsX5_runText (wsV RX5 149 RX5 yX5_readsCommand wsX5_readsCommand) := goodIn_app (goodIn_of _ (by decide +kernel)) ggX5_runText_X5_readsCommand
set_option maxRecDepth 20000 in
theorem ggX5_runText_X5_can : GoodIn wsX5_runText wsX5_can := goodIn_r _ [49, 12, 45, 50, 51, 52, 5, 53, 149, 150, 151, 152, 153, 154, 155, 156, 157] (by decide +kernel) (by decide +kernel)
set_option maxRecDepth 20000 in
theorem gX5_runText_X5_can : GoodIn wsX5_runText (wsV RX5 155 RX5 yX5_can wsX5_can) := goodIn_app (goodIn_of _ (by decide +kernel)) ggX5_runText_X5_can
set_option maxRecDepth 20000 in
theorem ggX5_runText_X5_does : GoodIn wsX5_runText wsX5_does := goodIn_r _ [57, 12, 13, 14, 45, 58, 59, 60, 5, 61, 62, 63, 64, 65, 66, 67, 68, 69, 70, 71, 72, 73, 74, 75, 76, 77, 78, 79, 80, 81, 82, 83, 84, 85, 86, 87, 88, 89, 90, 91, 92, 93, 94, 95, 96, 97, 98, 99, 100, 101, 102, 103, 104, 105, 106, 107, 108, 109, 110, 111, 112, 113, 114, 115, 116, 117, 118, 119, 120, 121, 122, 123, 124, 125, 126, 127, 128, 129, 130, 131, 132, 50, 51, 52, 53, 133, 134, 135, 136, 137, 138, 139, 140, 141, 142, 143, 144, 145, 146, 147, 148, 149, 150, 151, 152, 153, 154, 155, 156, 157] (by decide +kernel) (by decide +kernel)
set_option maxRecDepth 20000 in
theorem gX5_runText_X5_does : GoodIn wsX5_runText (wsV RX5 158 RX5 yX5_does wsX5_does) := goodIn_app (goodIn_of _ (by decide +kernel)) ggX5_runText_X5_does
set_option maxRecDepth 20000 in
theorem ggX5_runText_X5_takes : GoodIn wsX5_runText wsX5_takes := goodIn_r _ [23, 1, 15, 16, 17, 5, 18, 7, 19, 149, 150, 151, 152, 153, 154, 155, 156, 157] (by decide +kernel) (by decide +kernel)
set_option maxRecDepth 20000 in
theorem gX5_runText_X5_takes : GoodIn wsX5_runText (wsV RX5 137 RX5 yX5_takes wsX5_takes) := goodIn_app (goodIn_of _ (by decide +kernel)) ggX5_runText_X5_takes
theorem dX5_runText_0 : decode cX5_runText 0 = .ok (.aload_n 0, 1) := by decide +kernel
theorem dX5_runText_1 : decode cX5_runText 1 = .ok (.aload_n 0, 1) := by decide +kernel
theorem dX5_runText_2 : decode cX5_runText 2 = .ok (.invokevirtual 152, 3) := by decide +kernel
theorem dX5_runText_5 : decode cX5_runText 5 = .ok (.ifCond .eq 7, 3) := by decide +kernel
theorem dX5_runText_8 : decode cX5_runText 8 = .ok (.iconst 0, 1) := by decide +kernel
theorem dX5_runText_9 : decode cX5_runText 9 = .ok (.goto 4, 3) := by decide +kernel
theorem dX5_runText_12 : decode cX5_runText 12 = .ok (.iconst 1, 1) := by decide +kernel
theorem dX5_runText_13 : decode cX5_runText 13 = .ok (.invokevirtual 100, 3) := by decide +kernel
theorem dX5_runText_16 : decode cX5_runText 16 = .ok (.ifCond .ne 5, 3) := by decide +kernel
theorem dX5_runText_19 : decode cX5_runText 19 = .ok (.iconst 0, 1) := by decide +kernel
theorem dX5_runText_20 : decode cX5_runText 20 = .ok (.ireturn, 1) := by decide +kernel
theorem dX5_runText_21 : decode cX5_runText 21 = .ok (.aload_n 0, 1) := by decide +kernel
theorem dX5_runText_22 : decode cX5_runText 22 = .ok (.invokevirtual 103, 3) := by decide +kernel
theorem dX5_runText_25 : decode cX5_runText 25 = .ok (.aload_n 0, 1) := by decide +kernel
theorem dX5_runText_26 : decode cX5_runText 26 = .ok (.iconst 0, 1) := by decide +kernel
theorem dX5_runText_27 : decode cX5_runText 27 = .ok (.putfield 128, 3) := by decide +kernel
theorem dX5_runText_30 : decode cX5_runText 30 = .ok (.iconst 0, 1) := by decide +kernel
theorem dX5_runText_31 : decode cX5_runText 31 = .ok (.istore_n 1, 1) := by decide +kernel
theorem dX5_runText_32 : decode cX5_runText 32 = .ok (.aload_n 0, 1) := by decide +kernel
theorem dX5_runText_33 : decode cX5_runText 33 = .ok (.invokevirtual 149, 3) := by decide +kernel
theorem dX5_runText_36 : decode cX5_runText 36 = .ok (.ifCond .eq 27, 3) := by decide +kernel
theorem dX5_runText_39 : decode cX5_runText 39 = .ok (.aload_n 0, 1) := by decide +kernel
theorem dX5_runText_40 : decode cX5_runText 40 = .ok (.invokevirtual 155, 3) := by decide +kernel
theorem dX5_runText_43 : decode cX5_runText 43 = .ok (.ifCond .eq 20, 3) := by decide +kernel
theorem dX5_runText_46 : decode cX5_runText 46 = .ok (.aload_n 0, 1) := by decide +kernel
theorem dX5_runText_47 : decode cX5_runText 47 = .ok (.invokevirtual 158, 3) := by decide +kernel
theorem dX5_runText_50 : decode cX5_runText 50 = .ok (.iinc 1 1, 3) := by decide +kernel
theorem dX5_runText_53 : decode cX5_runText 53 = .ok (.aload_n 0, 1) := by decide +kernel
theorem dX5_runText_54 : decode cX5_runText 54 = .ok (.bipush 59, 2) := by decide +kernel
theorem dX5_runText_56 : decode cX5_runText 56 = .ok (.invokevirtual 137, 3) := by decide +kernel
theorem dX5_runText_59 : decode cX5_runText 59 = .ok (.pop, 1) := by decide +kernel
theorem dX5_runText_60 : decode cX5_runText 60 = .ok (.goto (-28), 3) := by decide +kernel
theorem dX5_runText_63 : decode cX5_runText 63 = .ok (.iload_n 1, 1) := by decide +kernel
theorem dX5_runText_64 : decode cX5_runText 64 = .ok (.ireturn, 1) := by decide +kernel
set_option maxRecDepth 20000 in
theorem ggX5_undo_X5_holds : GoodIn wsX5_undo wsX5_holds := goodIn_r _ [6, 7, 13, 14, 15, 16, 17, 18, 19, 20, 21] (by decide +kernel) (by decide +kernel)
set_option maxRecDepth 20000 in
theorem gX5_undo_X5_holds : GoodIn wsX5_undo (wsV RX5 100 RX5 yX5_holds wsX5_holds) := goodIn_app (goodIn_of _ (by decide +kernel)) ggX5_undo_X5_holds
set_option maxRecDepth 20000 in
theorem ggX5_undo_X5_copies : GoodIn wsX5_undo wsX5_copies := goodIn_r _ [11, 12, 13, 14, 15, 16, 17, 18, 19, 20, 21] (by decide +kernel) (by decide +kernel)
set_option maxRecDepth 20000 in
theorem gX5_undo_X5_copies : GoodIn wsX5_undo (wsV RX5 93 RX5 yX5_copies wsX5_copies) := goodIn_app (goodIn_of _ (by decide +kernel)) ggX5_undo_X5_copies
theorem dX5_undo_0 : decode cX5_undo 0 = .ok (.aload_n 0, 1) := by decide +kernel
theorem dX5_undo_1 : decode cX5_undo 1 = .ok (.aload_n 0, 1) := by decide +kernel
theorem dX5_undo_2 : decode cX5_undo 2 = .ok (.getfield 90, 3) := by decide +kernel
theorem dX5_undo_5 : decode cX5_undo 5 = .ok (.ifCond .le 7, 3) := by decide +kernel
theorem dX5_undo_8 : decode cX5_undo 8 = .ok (.iconst 0, 1) := by decide +kernel
theorem dX5_undo_9 : decode cX5_undo 9 = .ok (.goto 4, 3) := by decide +kernel
theorem dX5_undo_12 : decode cX5_undo 12 = .ok (.iconst 1, 1) := by decide +kernel
theorem dX5_undo_13 : decode cX5_undo 13 = .ok (.invokevirtual 100, 3) := by decide +kernel
theorem dX5_undo_16 : decode cX5_undo 16 = .ok (.ifCond .ne 5, 3) := by decide +kernel
theorem dX5_undo_19 : decode cX5_undo 19 = .ok (.iconst 0, 1) := by decide +kernel
theorem dX5_undo_20 : decode cX5_undo 20 = .ok (.ireturn, 1) := by decide +kernel
theorem dX5_undo_21 : decode cX5_undo 21 = .ok (.aload_n 0, 1) := by decide +kernel
theorem dX5_undo_22 : decode cX5_undo 22 = .ok (.aload_n 0, 1) := by decide +kernel
theorem dX5_undo_23 : decode cX5_undo 23 = .ok (.getfield 90, 3) := by decide +kernel
theorem dX5_undo_26 : decode cX5_undo 26 = .ok (.iconst 0, 1) := by decide +kernel
theorem dX5_undo_27 : decode cX5_undo 27 = .ok (.invokevirtual 93, 3) := by decide +kernel
theorem dX5_undo_30 : decode cX5_undo 30 = .ok (.aload_n 0, 1) := by decide +kernel
theorem dX5_undo_31 : decode cX5_undo 31 = .ok (.dup, 1) := by decide +kernel
theorem dX5_undo_32 : decode cX5_undo 32 = .ok (.getfield 90, 3) := by decide +kernel
theorem dX5_undo_35 : decode cX5_undo 35 = .ok (.iconst 1, 1) := by decide +kernel
theorem dX5_undo_36 : decode cX5_undo 36 = .ok (.isub, 1) := by decide +kernel
theorem dX5_undo_37 : decode cX5_undo 37 = .ok (.putfield 90, 3) := by decide +kernel
theorem dX5_undo_40 : decode cX5_undo 40 = .ok (.aload_n 0, 1) := by decide +kernel
theorem dX5_undo_41 : decode cX5_undo 41 = .ok (.getfield 90, 3) := by decide +kernel
theorem dX5_undo_44 : decode cX5_undo 44 = .ok (.ireturn, 1) := by decide +kernel
theorem dX5_isOn_0 : decode cX5_isOn 0 = .ok (.aload_n 0, 1) := by decide +kernel
theorem dX5_isOn_1 : decode cX5_isOn 1 = .ok (.iconst 0, 1) := by decide +kernel
theorem dX5_isOn_2 : decode cX5_isOn 2 = .ok (.putfield 16, 3) := by decide +kernel
theorem dX5_isOn_5 : decode cX5_isOn 5 = .ok (.aload_n 0, 1) := by decide +kernel
theorem dX5_isOn_6 : decode cX5_isOn 6 = .ok (.getfield 7, 3) := by decide +kernel
theorem dX5_isOn_9 : decode cX5_isOn 9 = .ok (.iconst 1, 1) := by decide +kernel
theorem dX5_isOn_10 : decode cX5_isOn 10 = .ok (.iaload, 1) := by decide +kernel
theorem dX5_isOn_11 : decode cX5_isOn 11 = .ok (.iconst 1, 1) := by decide +kernel
theorem dX5_isOn_12 : decode cX5_isOn 12 = .ok (.if_icmp .ne 7, 3) := by decide +kernel
theorem dX5_isOn_15 : decode cX5_isOn 15 = .ok (.iconst 1, 1) := by decide +kernel
theorem dX5_isOn_16 : decode cX5_isOn 16 = .ok (.goto 4, 3) := by decide +kernel
theorem dX5_isOn_19 : decode cX5_isOn 19 = .ok (.iconst 0, 1) := by decide +kernel
theorem dX5_isOn_20 : decode cX5_isOn 20 = .ok (.ireturn, 1) := by decide +kernel
theorem dX5_isIn_0 : decode cX5_isIn 0 = .ok (.aload_n 0, 1) := by decide +kernel
theorem dX5_isIn_1 : decode cX5_isIn 1 = .ok (.iconst 0, 1) := by decide +kernel
theorem dX5_isIn_2 : decode cX5_isIn 2 = .ok (.putfield 16, 3) := by decide +kernel
theorem dX5_isIn_5 : decode cX5_isIn 5 = .ok (.aload_n 0, 1) := by decide +kernel
theorem dX5_isIn_6 : decode cX5_isIn 6 = .ok (.getfield 7, 3) := by decide +kernel
theorem dX5_isIn_9 : decode cX5_isIn 9 = .ok (.iconst 0, 1) := by decide +kernel
theorem dX5_isIn_10 : decode cX5_isIn 10 = .ok (.iaload, 1) := by decide +kernel
theorem dX5_isIn_11 : decode cX5_isIn 11 = .ok (.iconst 1, 1) := by decide +kernel
theorem dX5_isIn_12 : decode cX5_isIn 12 = .ok (.if_icmp .ne 7, 3) := by decide +kernel
theorem dX5_isIn_15 : decode cX5_isIn 15 = .ok (.iconst 1, 1) := by decide +kernel
theorem dX5_isIn_16 : decode cX5_isIn 16 = .ok (.goto 4, 3) := by decide +kernel
theorem dX5_isIn_19 : decode cX5_isIn 19 = .ok (.iconst 0, 1) := by decide +kernel
theorem dX5_isIn_20 : decode cX5_isIn 20 = .ok (.ireturn, 1) := by decide +kernel
set_option maxRecDepth 20000 in
theorem ggX5_charge_X5_told : GoodIn wsX5_charge wsX5_told := goodIn_r _ [6, 7, 8, 9, 10, 11, 12, 13, 14, 15, 16] (by decide +kernel) (by decide +kernel)
set_option maxRecDepth 20000 in
theorem gX5_charge_X5_told : GoodIn wsX5_charge (wsV RX5 161 RX5 yX5_told wsX5_told) := goodIn_app (goodIn_of _ (by decide +kernel)) ggX5_charge_X5_told
theorem dX5_charge_0 : decode cX5_charge 0 = .ok (.aload_n 0, 1) := by decide +kernel
theorem dX5_charge_1 : decode cX5_charge 1 = .ok (.aload_n 0, 1) := by decide +kernel
theorem dX5_charge_2 : decode cX5_charge 2 = .ok (.getfield 7, 3) := by decide +kernel
theorem dX5_charge_5 : decode cX5_charge 5 = .ok (.iconst 3, 1) := by decide +kernel
theorem dX5_charge_6 : decode cX5_charge 6 = .ok (.iaload, 1) := by decide +kernel
theorem dX5_charge_7 : decode cX5_charge 7 = .ok (.invokevirtual 161, 3) := by decide +kernel
theorem dX5_charge_10 : decode cX5_charge 10 = .ok (.ireturn, 1) := by decide +kernel
set_option maxRecDepth 20000 in
theorem ggX5_line_X5_in : GoodIn wsX5_line wsX5_in := goodIn_r _ [4] (by decide +kernel) (by decide +kernel)
set_option maxRecDepth 20000 in
theorem gX5_line_X5_in : GoodIn wsX5_line (va_wsS RX5 20 yX5_in wsX5_in) := goodIn_app (goodIn_of _ (by decide +kernel)) ggX5_line_X5_in
set_option maxRecDepth 20000 in
theorem ggX5_line_X5_holds : GoodIn wsX5_line wsX5_holds := goodIn_r _ [8, 9, 19, 20, 21, 22, 23, 24, 25, 26, 27] (by decide +kernel) (by decide +kernel)
set_option maxRecDepth 20000 in
theorem gX5_line_X5_holds : GoodIn wsX5_line (wsV RX5 100 RX5 yX5_holds wsX5_holds) := goodIn_app (goodIn_of _ (by decide +kernel)) ggX5_line_X5_holds
set_option maxRecDepth 20000 in
theorem ggX5_line_X5_isEmpty : GoodIn wsX5_line wsX5_isEmpty := goodIn_r _ [13, 14, 15, 16, 3, 17, 18, 19, 20, 21, 22, 23, 24, 25, 26, 27] (by decide +kernel) (by decide +kernel)
set_option maxRecDepth 20000 in
theorem gX5_line_X5_isEmpty : GoodIn wsX5_line (wsV RX5 28 RX5 yX5_isEmpty wsX5_isEmpty) := goodIn_app (goodIn_of _ (by decide +kernel)) ggX5_line_X5_isEmpty
set_option maxRecDepth 20000 in
theorem ggX5_line_X5_of : GoodIn wsX5_line wsX5_of := goodIn_r _ [17, 18, 19, 20, 21, 22, 23, 24, 25, 26, 27] (by decide +kernel) (by decide +kernel)
set_option maxRecDepth 20000 in
theorem gX5_line_X5_of : GoodIn wsX5_line (wsV RX5 24 RX5 yX5_of wsX5_of) := goodIn_app (goodIn_of _ (by decide +kernel)) ggX5_line_X5_of
theorem dX5_line_0 : decode cX5_line 0 = .ok (.aload_n 0, 1) := by decide +kernel
theorem dX5_line_1 : decode cX5_line 1 = .ok (.iload_n 1, 1) := by decide +kernel
theorem dX5_line_2 : decode cX5_line 2 = .ok (.iconst 0, 1) := by decide +kernel
theorem dX5_line_3 : decode cX5_line 3 = .ok (.iconst 3, 1) := by decide +kernel
theorem dX5_line_4 : decode cX5_line 4 = .ok (.invokestatic 20, 3) := by decide +kernel
theorem dX5_line_7 : decode cX5_line 7 = .ok (.ifCond .eq 12, 3) := by decide +kernel
theorem dX5_line_10 : decode cX5_line 10 = .ok (.iload_n 2, 1) := by decide +kernel
theorem dX5_line_11 : decode cX5_line 11 = .ok (.iconst 0, 1) := by decide +kernel
theorem dX5_line_12 : decode cX5_line 12 = .ok (.iconst 2, 1) := by decide +kernel
theorem dX5_line_13 : decode cX5_line 13 = .ok (.invokestatic 20, 3) := by decide +kernel
theorem dX5_line_16 : decode cX5_line 16 = .ok (.ifCond .ne 7, 3) := by decide +kernel
theorem dX5_line_19 : decode cX5_line 19 = .ok (.iconst 1, 1) := by decide +kernel
theorem dX5_line_20 : decode cX5_line 20 = .ok (.goto 17, 3) := by decide +kernel
theorem dX5_line_23 : decode cX5_line 23 = .ok (.iload_n 3, 1) := by decide +kernel
theorem dX5_line_24 : decode cX5_line 24 = .ok (.iconst 0, 1) := by decide +kernel
theorem dX5_line_25 : decode cX5_line 25 = .ok (.iconst 4, 1) := by decide +kernel
theorem dX5_line_26 : decode cX5_line 26 = .ok (.invokestatic 20, 3) := by decide +kernel
theorem dX5_line_29 : decode cX5_line 29 = .ok (.ifCond .ne 7, 3) := by decide +kernel
theorem dX5_line_32 : decode cX5_line 32 = .ok (.iconst 2, 1) := by decide +kernel
theorem dX5_line_33 : decode cX5_line 33 = .ok (.goto 4, 3) := by decide +kernel
theorem dX5_line_36 : decode cX5_line 36 = .ok (.iconst 0, 1) := by decide +kernel
theorem dX5_line_37 : decode cX5_line 37 = .ok (.invokevirtual 100, 3) := by decide +kernel
theorem dX5_line_40 : decode cX5_line 40 = .ok (.ifCond .ne 5, 3) := by decide +kernel
theorem dX5_line_43 : decode cX5_line 43 = .ok (.iconst 0, 1) := by decide +kernel
theorem dX5_line_44 : decode cX5_line 44 = .ok (.ireturn, 1) := by decide +kernel
theorem dX5_line_45 : decode cX5_line 45 = .ok (.aload_n 0, 1) := by decide +kernel
theorem dX5_line_46 : decode cX5_line 46 = .ok (.iconst 3, 1) := by decide +kernel
theorem dX5_line_47 : decode cX5_line 47 = .ok (.iload_n 1, 1) := by decide +kernel
theorem dX5_line_48 : decode cX5_line 48 = .ok (.imul, 1) := by decide +kernel
theorem dX5_line_49 : decode cX5_line 49 = .ok (.iload_n 2, 1) := by decide +kernel
theorem dX5_line_50 : decode cX5_line 50 = .ok (.iadd, 1) := by decide +kernel
theorem dX5_line_51 : decode cX5_line 51 = .ok (.invokevirtual 28, 3) := by decide +kernel
theorem dX5_line_54 : decode cX5_line 54 = .ok (.ifCond .eq 7, 3) := by decide +kernel
theorem dX5_line_57 : decode cX5_line 57 = .ok (.iconst (-1), 1) := by decide +kernel
theorem dX5_line_58 : decode cX5_line 58 = .ok (.goto 13, 3) := by decide +kernel
theorem dX5_line_61 : decode cX5_line 61 = .ok (.aload_n 0, 1) := by decide +kernel
theorem dX5_line_62 : decode cX5_line 62 = .ok (.iconst 3, 1) := by decide +kernel
theorem dX5_line_63 : decode cX5_line 63 = .ok (.iload_n 1, 1) := by decide +kernel
theorem dX5_line_64 : decode cX5_line 64 = .ok (.imul, 1) := by decide +kernel
theorem dX5_line_65 : decode cX5_line 65 = .ok (.iload_n 2, 1) := by decide +kernel
theorem dX5_line_66 : decode cX5_line 66 = .ok (.iadd, 1) := by decide +kernel
theorem dX5_line_67 : decode cX5_line 67 = .ok (.iload_n 3, 1) := by decide +kernel
theorem dX5_line_68 : decode cX5_line 68 = .ok (.invokevirtual 24, 3) := by decide +kernel
theorem dX5_line_71 : decode cX5_line 71 = .ok (.ireturn, 1) := by decide +kernel
set_option maxRecDepth 20000 in
theorem ggX5_dirtyOf_X5_isStripe : GoodIn wsX5_dirtyOf wsX5_isStripe := goodIn_r _ [4, 5, 6, 3, 7] (by decide +kernel) (by decide +kernel)
set_option maxRecDepth 20000 in
theorem gX5_dirtyOf_X5_isStripe : GoodIn wsX5_dirtyOf (va_wsS RX5 112 yX5_isStripe wsX5_isStripe) := goodIn_app (goodIn_of _ (by decide +kernel)) ggX5_dirtyOf_X5_isStripe
set_option maxRecDepth 20000 in
theorem ggX5_dirtyOf_X5_holds : GoodIn wsX5_dirtyOf wsX5_holds := goodIn_r _ [11, 12, 30, 31, 32, 33, 34, 35, 36, 37, 38] (by decide +kernel) (by decide +kernel)
set_option maxRecDepth 20000 in
theorem gX5_dirtyOf_X5_holds : GoodIn wsX5_dirtyOf (wsV RX5 100 RX5 yX5_holds wsX5_holds) := goodIn_app (goodIn_of _ (by decide +kernel)) ggX5_dirtyOf_X5_holds
set_option maxRecDepth 20000 in
theorem ggX5_dirtyOf_X5_dirtyIn : GoodIn wsX5_dirtyOf wsX5_dirtyIn := goodIn_r _ [16, 17, 18, 19, 3, 20, 21, 22, 23, 24, 25, 26, 27, 28, 29, 30, 31, 32, 33, 34, 35, 36, 37, 38] (by decide +kernel) (by decide +kernel)
set_option maxRecDepth 20000 in
theorem gX5_dirtyOf_X5_dirtyIn : GoodIn wsX5_dirtyOf (wsV RX5 54 RX5 yX5_dirtyIn wsX5_dirtyIn) := goodIn_app (goodIn_of _ (by decide +kernel)) ggX5_dirtyOf_X5_dirtyIn
theorem dX5_dirtyOf_0 : decode cX5_dirtyOf 0 = .ok (.aload_n 0, 1) := by decide +kernel
theorem dX5_dirtyOf_1 : decode cX5_dirtyOf 1 = .ok (.iload_n 1, 1) := by decide +kernel
theorem dX5_dirtyOf_2 : decode cX5_dirtyOf 2 = .ok (.invokestatic 112, 3) := by decide +kernel
theorem dX5_dirtyOf_5 : decode cX5_dirtyOf 5 = .ok (.ifCond .eq 7, 3) := by decide +kernel
theorem dX5_dirtyOf_8 : decode cX5_dirtyOf 8 = .ok (.iconst 0, 1) := by decide +kernel
theorem dX5_dirtyOf_9 : decode cX5_dirtyOf 9 = .ok (.goto 4, 3) := by decide +kernel
theorem dX5_dirtyOf_12 : decode cX5_dirtyOf 12 = .ok (.iconst 1, 1) := by decide +kernel
theorem dX5_dirtyOf_13 : decode cX5_dirtyOf 13 = .ok (.invokevirtual 100, 3) := by decide +kernel
theorem dX5_dirtyOf_16 : decode cX5_dirtyOf 16 = .ok (.ifCond .eq 11, 3) := by decide +kernel
theorem dX5_dirtyOf_19 : decode cX5_dirtyOf 19 = .ok (.aload_n 0, 1) := by decide +kernel
theorem dX5_dirtyOf_20 : decode cX5_dirtyOf 20 = .ok (.iload_n 1, 1) := by decide +kernel
theorem dX5_dirtyOf_21 : decode cX5_dirtyOf 21 = .ok (.invokevirtual 54, 3) := by decide +kernel
theorem dX5_dirtyOf_24 : decode cX5_dirtyOf 24 = .ok (.goto 4, 3) := by decide +kernel
theorem dX5_dirtyOf_27 : decode cX5_dirtyOf 27 = .ok (.iconst 0, 1) := by decide +kernel
theorem dX5_dirtyOf_28 : decode cX5_dirtyOf 28 = .ok (.ireturn, 1) := by decide +kernel
set_option maxRecDepth 20000 in
theorem ggX5_dirtyLines_X5_dirtyIn : GoodIn wsX5_dirtyLines wsX5_dirtyIn := goodIn_r _ [5, 6, 7, 8, 4, 9, 10, 11, 12, 13, 14, 15, 16, 17, 18, 19, 20, 21, 22, 23, 24, 25, 26, 27] (by decide +kernel) (by decide +kernel)
set_option maxRecDepth 20000 in
theorem gX5_dirtyLines_X5_dirtyIn : GoodIn wsX5_dirtyLines (wsV RX5 54 RX5 yX5_dirtyIn wsX5_dirtyIn) := goodIn_app (goodIn_of _ (by decide +kernel)) ggX5_dirtyLines_X5_dirtyIn
theorem dX5_dirtyLines_0 : decode cX5_dirtyLines 0 = .ok (.iconst 0, 1) := by decide +kernel
theorem dX5_dirtyLines_1 : decode cX5_dirtyLines 1 = .ok (.istore_n 1, 1) := by decide +kernel
theorem dX5_dirtyLines_2 : decode cX5_dirtyLines 2 = .ok (.iconst 0, 1) := by decide +kernel
theorem dX5_dirtyLines_3 : decode cX5_dirtyLines 3 = .ok (.istore_n 2, 1) := by decide +kernel
theorem dX5_dirtyLines_4 : decode cX5_dirtyLines 4 = .ok (.iload_n 2, 1) := by decide +kernel
theorem dX5_dirtyLines_5 : decode cX5_dirtyLines 5 = .ok (.bipush 16, 2) := by decide +kernel
theorem dX5_dirtyLines_7 : decode cX5_dirtyLines 7 = .ok (.if_icmp .ge 17, 3) := by decide +kernel
theorem dX5_dirtyLines_10 : decode cX5_dirtyLines 10 = .ok (.iload_n 1, 1) := by decide +kernel
theorem dX5_dirtyLines_11 : decode cX5_dirtyLines 11 = .ok (.aload_n 0, 1) := by decide +kernel
theorem dX5_dirtyLines_12 : decode cX5_dirtyLines 12 = .ok (.iload_n 2, 1) := by decide +kernel
theorem dX5_dirtyLines_13 : decode cX5_dirtyLines 13 = .ok (.invokevirtual 54, 3) := by decide +kernel
theorem dX5_dirtyLines_16 : decode cX5_dirtyLines 16 = .ok (.iadd, 1) := by decide +kernel
theorem dX5_dirtyLines_17 : decode cX5_dirtyLines 17 = .ok (.istore_n 1, 1) := by decide +kernel
theorem dX5_dirtyLines_18 : decode cX5_dirtyLines 18 = .ok (.iinc 2 1, 3) := by decide +kernel
theorem dX5_dirtyLines_21 : decode cX5_dirtyLines 21 = .ok (.goto (-17), 3) := by decide +kernel
theorem dX5_dirtyLines_24 : decode cX5_dirtyLines 24 = .ok (.iload_n 1, 1) := by decide +kernel
theorem dX5_dirtyLines_25 : decode cX5_dirtyLines 25 = .ok (.ireturn, 1) := by decide +kernel
set_option maxRecDepth 20000 in
theorem ggX5_dirty_X5_dirtyLines : GoodIn wsX5_dirty wsX5_dirtyLines := goodIn_r _ [5, 6, 7, 8, 4, 9, 10, 11, 12, 13, 14, 15, 16, 17, 18, 19, 20, 21, 22, 28, 29, 30, 31, 32, 33, 34, 35, 36] (by decide +kernel) (by decide +kernel)
set_option maxRecDepth 20000 in
theorem gX5_dirty_X5_dirtyLines : GoodIn wsX5_dirty (wsV RX5 164 RX5 yX5_dirtyLines wsX5_dirtyLines) := goodIn_app (goodIn_of _ (by decide +kernel)) ggX5_dirty_X5_dirtyLines
set_option maxRecDepth 20000 in
theorem ggX5_dirty_X5_told : GoodIn wsX5_dirty wsX5_told := goodIn_r _ [26, 27, 28, 29, 30, 31, 32, 33, 34, 35, 36] (by decide +kernel) (by decide +kernel)
set_option maxRecDepth 20000 in
theorem gX5_dirty_X5_told : GoodIn wsX5_dirty (wsV RX5 161 RX5 yX5_told wsX5_told) := goodIn_app (goodIn_of _ (by decide +kernel)) ggX5_dirty_X5_told
theorem dX5_dirty_0 : decode cX5_dirty 0 = .ok (.aload_n 0, 1) := by decide +kernel
theorem dX5_dirty_1 : decode cX5_dirty 1 = .ok (.aload_n 0, 1) := by decide +kernel
theorem dX5_dirty_2 : decode cX5_dirty 2 = .ok (.invokevirtual 164, 3) := by decide +kernel
theorem dX5_dirty_5 : decode cX5_dirty 5 = .ok (.invokevirtual 161, 3) := by decide +kernel
theorem dX5_dirty_8 : decode cX5_dirty 8 = .ok (.ireturn, 1) := by decide +kernel
set_option maxRecDepth 20000 in
theorem ggX5_used_X5_isEmpty : GoodIn wsX5_used wsX5_isEmpty := goodIn_r _ [6, 7, 8, 9, 5, 10, 11, 12, 13, 14, 15, 16, 17, 18, 19, 20] (by decide +kernel) (by decide +kernel)
set_option maxRecDepth 20000 in
theorem gX5_used_X5_isEmpty : GoodIn wsX5_used (wsV RX5 28 RX5 yX5_isEmpty wsX5_isEmpty) := goodIn_app (goodIn_of _ (by decide +kernel)) ggX5_used_X5_isEmpty
theorem dX5_used_0 : decode cX5_used 0 = .ok (.aload_n 0, 1) := by decide +kernel
theorem dX5_used_1 : decode cX5_used 1 = .ok (.iconst 0, 1) := by decide +kernel
theorem dX5_used_2 : decode cX5_used 2 = .ok (.putfield 16, 3) := by decide +kernel
theorem dX5_used_5 : decode cX5_used 5 = .ok (.iconst 0, 1) := by decide +kernel
theorem dX5_used_6 : decode cX5_used 6 = .ok (.istore_n 1, 1) := by decide +kernel
theorem dX5_used_7 : decode cX5_used 7 = .ok (.iconst 0, 1) := by decide +kernel
theorem dX5_used_8 : decode cX5_used 8 = .ok (.istore_n 2, 1) := by decide +kernel
theorem dX5_used_9 : decode cX5_used 9 = .ok (.iload_n 2, 1) := by decide +kernel
theorem dX5_used_10 : decode cX5_used 10 = .ok (.bipush 12, 2) := by decide +kernel
theorem dX5_used_12 : decode cX5_used 12 = .ok (.if_icmp .ge 25, 3) := by decide +kernel
