set_option maxRecDepth 20000 in
theorem ggX0_init_J7_fill_53178 : GoodIn wsX0_init wsJ7_fill_53178 := goodIn_r _ [13] (by decide +kernel) (by decide +kernel)
set_option maxRecDepth 20000 in
theorem gX0_init_J7_fill_53178 : GoodIn wsX0_init (va_wsS RX0 30 yJ7_fill_53178 wsJ7_fill_53178) := goodIn_app (goodIn_of _ (by decide +kernel)) ggX0_init_J7_fill_53178
theorem dX0_init_0 : decode cX0_init 0 = .ok (.aload_n 0, 1) := by decide +kernel
theorem dX0_init_1 : decode cX0_init 1 = .ok (.invokespecial 3, 3) := by decide +kernel
theorem dX0_init_4 : decode cX0_init 4 = .ok (.aload_n 0, 1) := by decide +kernel
theorem dX0_init_5 : decode cX0_init 5 = .ok (.aload_n 1, 1) := by decide +kernel
theorem dX0_init_6 : decode cX0_init 6 = .ok (.putfield 9, 3) := by decide +kernel
theorem dX0_init_9 : decode cX0_init 9 = .ok (.aload_n 0, 1) := by decide +kernel
theorem dX0_init_10 : decode cX0_init 10 = .ok (.aload_n 2, 1) := by decide +kernel
theorem dX0_init_11 : decode cX0_init 11 = .ok (.putfield 15, 3) := by decide +kernel
theorem dX0_init_14 : decode cX0_init 14 = .ok (.aload_n 0, 1) := by decide +kernel
theorem dX0_init_15 : decode cX0_init 15 = .ok (.bipush 40, 2) := by decide +kernel
theorem dX0_init_17 : decode cX0_init 17 = .ok (.newarray .int, 2) := by decide +kernel
theorem dX0_init_19 : decode cX0_init 19 = .ok (.putfield 19, 3) := by decide +kernel
theorem dX0_init_22 : decode cX0_init 22 = .ok (.aload_n 0, 1) := by decide +kernel
theorem dX0_init_23 : decode cX0_init 23 = .ok (.bipush 40, 2) := by decide +kernel
theorem dX0_init_25 : decode cX0_init 25 = .ok (.newarray .int, 2) := by decide +kernel
theorem dX0_init_27 : decode cX0_init 27 = .ok (.putfield 23, 3) := by decide +kernel
theorem dX0_init_30 : decode cX0_init 30 = .ok (.aload_n 0, 1) := by decide +kernel
theorem dX0_init_31 : decode cX0_init 31 = .ok (.iconst (-1), 1) := by decide +kernel
theorem dX0_init_32 : decode cX0_init 32 = .ok (.putfield 26, 3) := by decide +kernel
theorem dX0_init_35 : decode cX0_init 35 = .ok (.aload_n 0, 1) := by decide +kernel
theorem dX0_init_36 : decode cX0_init 36 = .ok (.getfield 19, 3) := by decide +kernel
theorem dX0_init_39 : decode cX0_init 39 = .ok (.iconst (-1), 1) := by decide +kernel
theorem dX0_init_40 : decode cX0_init 40 = .ok (.invokestatic 30, 3) := by decide +kernel
theorem dX0_init_43 : decode cX0_init 43 = .ok (.return_, 1) := by decide +kernel
set_option maxRecDepth 20000 in
theorem ggX0_heldBefore_X4_isBelow : GoodIn wsX0_heldBefore wsX4_isBelow := goodIn_r _ [4] (by decide +kernel) (by decide +kernel)
set_option maxRecDepth 20000 in
theorem gX0_heldBefore_X4_isBelow_n36 : GoodIn wsX0_heldBefore (wsX4_isBelow) := ggX0_heldBefore_X4_isBelow
theorem dX0_heldBefore_0 : decode cX0_heldBefore 0 = .ok (.iload_n 1, 1) := by decide +kernel
theorem dX0_heldBefore_1 : decode cX0_heldBefore 1 = .ok (.bipush 40, 2) := by decide +kernel
theorem dX0_heldBefore_3 : decode cX0_heldBefore 3 = .ok (.invokestatic 36, 3) := by decide +kernel
theorem dX0_heldBefore_6 : decode cX0_heldBefore 6 = .ok (.ifCond .eq 12, 3) := by decide +kernel
theorem dX0_heldBefore_9 : decode cX0_heldBefore 9 = .ok (.aload_n 0, 1) := by decide +kernel
theorem dX0_heldBefore_10 : decode cX0_heldBefore 10 = .ok (.getfield 19, 3) := by decide +kernel
theorem dX0_heldBefore_13 : decode cX0_heldBefore 13 = .ok (.iload_n 1, 1) := by decide +kernel
theorem dX0_heldBefore_14 : decode cX0_heldBefore 14 = .ok (.iaload, 1) := by decide +kernel
theorem dX0_heldBefore_15 : decode cX0_heldBefore 15 = .ok (.goto 4, 3) := by decide +kernel
theorem dX0_heldBefore_18 : decode cX0_heldBefore 18 = .ok (.iconst (-1), 1) := by decide +kernel
theorem dX0_heldBefore_19 : decode cX0_heldBefore 19 = .ok (.ireturn, 1) := by decide +kernel
set_option maxRecDepth 20000 in
theorem ggX0_checkProgram_J7_fill_53178 : GoodIn wsX0_checkProgram wsJ7_fill_53178 := goodIn_r _ [8] (by decide +kernel) (by decide +kernel)
set_option maxRecDepth 20000 in
theorem gX0_checkProgram_J7_fill_53178 : GoodIn wsX0_checkProgram (va_wsS RX0 30 yJ7_fill_53178 wsJ7_fill_53178) := goodIn_app (goodIn_of _ (by decide +kernel)) ggX0_checkProgram_J7_fill_53178
set_option maxRecDepth 20000 in
theorem ggX0_checkProgram_X1_hasOpenBlocks : GoodIn wsX0_checkProgram wsX1_hasOpenBlocks := goodIn_r _ [13, 14, 66, 67, 68, 69, 70, 71, 72, 73, 74] (by decide +kernel) (by decide +kernel)
set_option maxRecDepth 20000 in
theorem gX0_checkProgram_X1_hasOpenBlocks : GoodIn wsX0_checkProgram (wsV RX0 45 RX1 yX1_hasOpenBlocks wsX1_hasOpenBlocks) := goodIn_app (goodIn_of _ (by decide +kernel)) ggX0_checkProgram_X1_hasOpenBlocks
set_option maxRecDepth 20000 in
theorem ggX0_checkProgram_X0_afterEntry : GoodIn wsX0_checkProgram wsX0_afterEntry := goodIn_r _ [19, 2, 20, 1, 4, 21, 22, 23, 12, 24, 25, 26, 27, 28, 29, 30, 31, 32, 33, 34, 35, 36, 37, 38, 39, 40, 41, 42, 43, 44, 45, 46, 47, 48, 49, 50, 51, 52, 53, 54, 55, 61, 62, 63, 64, 65, 66, 67, 68, 69, 70, 71, 72, 73, 74, 75, 76] (by decide +kernel) (by decide +kernel)
set_option maxRecDepth 20000 in
theorem gX0_checkProgram_X0_afterEntry : GoodIn wsX0_checkProgram (wsV RX0 52 RX0 yX0_afterEntry wsX0_afterEntry) := goodIn_app (goodIn_of _ (by decide +kernel)) ggX0_checkProgram_X0_afterEntry
set_option maxRecDepth 20000 in
theorem ggX0_checkProgram_X2_faultOfLeaving : GoodIn wsX0_checkProgram wsX2_faultOfLeaving := goodIn_r _ [59, 37, 27, 38, 60, 52, 53, 46, 54, 55, 26, 28, 75, 76] (by decide +kernel) (by decide +kernel)
set_option maxRecDepth 20000 in
theorem gX0_checkProgram_X2_faultOfLeaving : GoodIn wsX0_checkProgram (wsV RX0 59 RX2 yX2_faultOfLeaving wsX2_faultOfLeaving) := goodIn_app (goodIn_of _ (by decide +kernel)) ggX0_checkProgram_X2_faultOfLeaving
theorem dX0_checkProgram_0 : decode cX0_checkProgram 0 = .ok (.aload_n 0, 1) := by decide +kernel
theorem dX0_checkProgram_1 : decode cX0_checkProgram 1 = .ok (.getfield 19, 3) := by decide +kernel
theorem dX0_checkProgram_4 : decode cX0_checkProgram 4 = .ok (.iconst (-1), 1) := by decide +kernel
theorem dX0_checkProgram_5 : decode cX0_checkProgram 5 = .ok (.invokestatic 30, 3) := by decide +kernel
theorem dX0_checkProgram_8 : decode cX0_checkProgram 8 = .ok (.aload_n 0, 1) := by decide +kernel
theorem dX0_checkProgram_9 : decode cX0_checkProgram 9 = .ok (.aload_n 0, 1) := by decide +kernel
theorem dX0_checkProgram_10 : decode cX0_checkProgram 10 = .ok (.getfield 9, 3) := by decide +kernel
theorem dX0_checkProgram_13 : decode cX0_checkProgram 13 = .ok (.getfield 40, 3) := by decide +kernel
theorem dX0_checkProgram_16 : decode cX0_checkProgram 16 = .ok (.putfield 26, 3) := by decide +kernel
theorem dX0_checkProgram_19 : decode cX0_checkProgram 19 = .ok (.aload_n 0, 1) := by decide +kernel
theorem dX0_checkProgram_20 : decode cX0_checkProgram 20 = .ok (.getfield 9, 3) := by decide +kernel
theorem dX0_checkProgram_23 : decode cX0_checkProgram 23 = .ok (.invokevirtual 45, 3) := by decide +kernel
theorem dX0_checkProgram_26 : decode cX0_checkProgram 26 = .ok (.ifCond .eq 6, 3) := by decide +kernel
theorem dX0_checkProgram_29 : decode cX0_checkProgram 29 = .ok (.bipush 8, 2) := by decide +kernel
theorem dX0_checkProgram_31 : decode cX0_checkProgram 31 = .ok (.ireturn, 1) := by decide +kernel
theorem dX0_checkProgram_32 : decode cX0_checkProgram 32 = .ok (.iconst 0, 1) := by decide +kernel
theorem dX0_checkProgram_33 : decode cX0_checkProgram 33 = .ok (.istore_n 1, 1) := by decide +kernel
theorem dX0_checkProgram_34 : decode cX0_checkProgram 34 = .ok (.iconst 0, 1) := by decide +kernel
theorem dX0_checkProgram_35 : decode cX0_checkProgram 35 = .ok (.istore_n 2, 1) := by decide +kernel
theorem dX0_checkProgram_36 : decode cX0_checkProgram 36 = .ok (.iload_n 2, 1) := by decide +kernel
theorem dX0_checkProgram_37 : decode cX0_checkProgram 37 = .ok (.aload_n 0, 1) := by decide +kernel
theorem dX0_checkProgram_38 : decode cX0_checkProgram 38 = .ok (.getfield 9, 3) := by decide +kernel
theorem dX0_checkProgram_41 : decode cX0_checkProgram 41 = .ok (.getfield 49, 3) := by decide +kernel
theorem dX0_checkProgram_44 : decode cX0_checkProgram 44 = .ok (.if_icmp .ge 38, 3) := by decide +kernel
theorem dX0_checkProgram_47 : decode cX0_checkProgram 47 = .ok (.aload_n 0, 1) := by decide +kernel
theorem dX0_checkProgram_48 : decode cX0_checkProgram 48 = .ok (.iload_n 2, 1) := by decide +kernel
theorem dX0_checkProgram_49 : decode cX0_checkProgram 49 = .ok (.iload_n 1, 1) := by decide +kernel
theorem dX0_checkProgram_50 : decode cX0_checkProgram 50 = .ok (.invokevirtual 52, 3) := by decide +kernel
theorem dX0_checkProgram_53 : decode cX0_checkProgram 53 = .ok (.istore_n 3, 1) := by decide +kernel
theorem dX0_checkProgram_54 : decode cX0_checkProgram 54 = .ok (.iload_n 3, 1) := by decide +kernel
theorem dX0_checkProgram_55 : decode cX0_checkProgram 55 = .ok (.ifCond .ge 19, 3) := by decide +kernel
theorem dX0_checkProgram_58 : decode cX0_checkProgram 58 = .ok (.aload_n 0, 1) := by decide +kernel
theorem dX0_checkProgram_59 : decode cX0_checkProgram 59 = .ok (.aload_n 0, 1) := by decide +kernel
theorem dX0_checkProgram_60 : decode cX0_checkProgram 60 = .ok (.getfield 9, 3) := by decide +kernel
theorem dX0_checkProgram_63 : decode cX0_checkProgram 63 = .ok (.getfield 56, 3) := by decide +kernel
theorem dX0_checkProgram_66 : decode cX0_checkProgram 66 = .ok (.iload_n 2, 1) := by decide +kernel
theorem dX0_checkProgram_67 : decode cX0_checkProgram 67 = .ok (.iaload, 1) := by decide +kernel
theorem dX0_checkProgram_68 : decode cX0_checkProgram 68 = .ok (.putfield 26, 3) := by decide +kernel
theorem dX0_checkProgram_71 : decode cX0_checkProgram 71 = .ok (.iload_n 3, 1) := by decide +kernel
theorem dX0_checkProgram_72 : decode cX0_checkProgram 72 = .ok (.ineg, 1) := by decide +kernel
theorem dX0_checkProgram_73 : decode cX0_checkProgram 73 = .ok (.ireturn, 1) := by decide +kernel
theorem dX0_checkProgram_74 : decode cX0_checkProgram 74 = .ok (.iload_n 3, 1) := by decide +kernel
theorem dX0_checkProgram_75 : decode cX0_checkProgram 75 = .ok (.istore_n 1, 1) := by decide +kernel
theorem dX0_checkProgram_76 : decode cX0_checkProgram 76 = .ok (.iinc 2 1, 3) := by decide +kernel
theorem dX0_checkProgram_79 : decode cX0_checkProgram 79 = .ok (.goto (-43), 3) := by decide +kernel
theorem dX0_checkProgram_82 : decode cX0_checkProgram 82 = .ok (.aload_n 0, 1) := by decide +kernel
theorem dX0_checkProgram_83 : decode cX0_checkProgram 83 = .ok (.getfield 15, 3) := by decide +kernel
theorem dX0_checkProgram_86 : decode cX0_checkProgram 86 = .ok (.iload_n 1, 1) := by decide +kernel
theorem dX0_checkProgram_87 : decode cX0_checkProgram 87 = .ok (.invokevirtual 59, 3) := by decide +kernel
theorem dX0_checkProgram_90 : decode cX0_checkProgram 90 = .ok (.istore_n 2, 1) := by decide +kernel
theorem dX0_checkProgram_91 : decode cX0_checkProgram 91 = .ok (.iload_n 2, 1) := by decide +kernel
theorem dX0_checkProgram_92 : decode cX0_checkProgram 92 = .ok (.ifCond .ne 8, 3) := by decide +kernel
theorem dX0_checkProgram_95 : decode cX0_checkProgram 95 = .ok (.aload_n 0, 1) := by decide +kernel
theorem dX0_checkProgram_96 : decode cX0_checkProgram 96 = .ok (.iconst (-1), 1) := by decide +kernel
theorem dX0_checkProgram_97 : decode cX0_checkProgram 97 = .ok (.putfield 26, 3) := by decide +kernel
theorem dX0_checkProgram_100 : decode cX0_checkProgram 100 = .ok (.iload_n 2, 1) := by decide +kernel
theorem dX0_checkProgram_101 : decode cX0_checkProgram 101 = .ok (.ireturn, 1) := by decide +kernel
set_option maxRecDepth 20000 in
theorem ggX0_afterEntry_X1_hasEntry : GoodIn wsX0_afterEntry wsX1_hasEntry := goodIn_r _ [9, 10, 11, 12, 13, 46, 47, 48, 49, 50, 51, 52, 53, 54] (by decide +kernel) (by decide +kernel)
set_option maxRecDepth 20000 in
theorem gX0_afterEntry_X1_hasEntry : GoodIn wsX0_afterEntry (wsV RX0 65 RX1 yX1_hasEntry wsX1_hasEntry) := goodIn_app (goodIn_of _ (by decide +kernel)) ggX0_afterEntry_X1_hasEntry
set_option maxRecDepth 20000 in
theorem ggX0_afterEntry_X4_isBelow : GoodIn wsX0_afterEntry wsX4_isBelow := goodIn_r _ [13] (by decide +kernel) (by decide +kernel)
set_option maxRecDepth 20000 in
theorem gX0_afterEntry_X4_isBelow_n36 : GoodIn wsX0_afterEntry (wsX4_isBelow) := ggX0_afterEntry_X4_isBelow
set_option maxRecDepth 20000 in
theorem ggX0_afterEntry_X1_afterSimple : GoodIn wsX0_afterEntry wsX1_afterSimple := goodIn_r _ [17, 18, 19, 20, 21, 6, 7, 8, 9, 10, 11, 12, 13, 22, 23, 24, 25, 26, 27, 28, 29, 30, 31, 32, 33, 34, 35, 36, 37, 38, 39, 40, 46, 47, 48, 49, 50, 51, 52, 53, 54, 55, 56] (by decide +kernel) (by decide +kernel)
set_option maxRecDepth 20000 in
theorem gX0_afterEntry_X1_afterSimple : GoodIn wsX0_afterEntry (wsV RX0 72 RX1 yX1_afterSimple wsX1_afterSimple) := goodIn_app (goodIn_of _ (by decide +kernel)) ggX0_afterEntry_X1_afterSimple
theorem dX0_afterEntry_0 : decode cX0_afterEntry 0 = .ok (.aload_n 0, 1) := by decide +kernel
theorem dX0_afterEntry_1 : decode cX0_afterEntry 1 = .ok (.getfield 9, 3) := by decide +kernel
theorem dX0_afterEntry_4 : decode cX0_afterEntry 4 = .ok (.iload_n 1, 1) := by decide +kernel
theorem dX0_afterEntry_5 : decode cX0_afterEntry 5 = .ok (.invokevirtual 65, 3) := by decide +kernel
theorem dX0_afterEntry_8 : decode cX0_afterEntry 8 = .ok (.ifCond .eq 15, 3) := by decide +kernel
theorem dX0_afterEntry_11 : decode cX0_afterEntry 11 = .ok (.aload_n 0, 1) := by decide +kernel
theorem dX0_afterEntry_12 : decode cX0_afterEntry 12 = .ok (.getfield 9, 3) := by decide +kernel
theorem dX0_afterEntry_15 : decode cX0_afterEntry 15 = .ok (.getfield 56, 3) := by decide +kernel
theorem dX0_afterEntry_18 : decode cX0_afterEntry 18 = .ok (.iload_n 1, 1) := by decide +kernel
theorem dX0_afterEntry_19 : decode cX0_afterEntry 19 = .ok (.iaload, 1) := by decide +kernel
theorem dX0_afterEntry_20 : decode cX0_afterEntry 20 = .ok (.goto 4, 3) := by decide +kernel
theorem dX0_afterEntry_23 : decode cX0_afterEntry 23 = .ok (.iconst (-1), 1) := by decide +kernel
theorem dX0_afterEntry_24 : decode cX0_afterEntry 24 = .ok (.istore_n 3, 1) := by decide +kernel
theorem dX0_afterEntry_25 : decode cX0_afterEntry 25 = .ok (.iload_n 3, 1) := by decide +kernel
theorem dX0_afterEntry_26 : decode cX0_afterEntry 26 = .ok (.bipush 40, 2) := by decide +kernel
theorem dX0_afterEntry_28 : decode cX0_afterEntry 28 = .ok (.invokestatic 36, 3) := by decide +kernel
theorem dX0_afterEntry_31 : decode cX0_afterEntry 31 = .ok (.ifCond .ne 5, 3) := by decide +kernel
theorem dX0_afterEntry_34 : decode cX0_afterEntry 34 = .ok (.iload_n 2, 1) := by decide +kernel
theorem dX0_afterEntry_35 : decode cX0_afterEntry 35 = .ok (.ireturn, 1) := by decide +kernel
theorem dX0_afterEntry_36 : decode cX0_afterEntry 36 = .ok (.aload_n 0, 1) := by decide +kernel
theorem dX0_afterEntry_37 : decode cX0_afterEntry 37 = .ok (.getfield 9, 3) := by decide +kernel
theorem dX0_afterEntry_40 : decode cX0_afterEntry 40 = .ok (.getfield 69, 3) := by decide +kernel
theorem dX0_afterEntry_43 : decode cX0_afterEntry 43 = .ok (.iload_n 1, 1) := by decide +kernel
theorem dX0_afterEntry_44 : decode cX0_afterEntry 44 = .ok (.iaload, 1) := by decide +kernel
theorem dX0_afterEntry_45 : decode cX0_afterEntry 45 = .ok (.tableswitch 92 4 8 #[83, 35, 49, 83, 66], 35) := by decide +kernel
theorem dX0_afterEntry_80 : decode cX0_afterEntry 80 = .ok (.aload_n 0, 1) := by decide +kernel
theorem dX0_afterEntry_81 : decode cX0_afterEntry 81 = .ok (.getfield 23, 3) := by decide +kernel
theorem dX0_afterEntry_84 : decode cX0_afterEntry 84 = .ok (.iload_n 3, 1) := by decide +kernel
theorem dX0_afterEntry_85 : decode cX0_afterEntry 85 = .ok (.iload_n 2, 1) := by decide +kernel
theorem dX0_afterEntry_86 : decode cX0_afterEntry 86 = .ok (.iastore, 1) := by decide +kernel
theorem dX0_afterEntry_87 : decode cX0_afterEntry 87 = .ok (.aload_n 0, 1) := by decide +kernel
theorem dX0_afterEntry_88 : decode cX0_afterEntry 88 = .ok (.getfield 19, 3) := by decide +kernel
theorem dX0_afterEntry_91 : decode cX0_afterEntry 91 = .ok (.iload_n 3, 1) := by decide +kernel
theorem dX0_afterEntry_92 : decode cX0_afterEntry 92 = .ok (.iaload, 1) := by decide +kernel
theorem dX0_afterEntry_93 : decode cX0_afterEntry 93 = .ok (.ireturn, 1) := by decide +kernel
theorem dX0_afterEntry_94 : decode cX0_afterEntry 94 = .ok (.iload_n 2, 1) := by decide +kernel
theorem dX0_afterEntry_95 : decode cX0_afterEntry 95 = .ok (.aload_n 0, 1) := by decide +kernel
theorem dX0_afterEntry_96 : decode cX0_afterEntry 96 = .ok (.getfield 23, 3) := by decide +kernel
theorem dX0_afterEntry_99 : decode cX0_afterEntry 99 = .ok (.iload_n 3, 1) := by decide +kernel
theorem dX0_afterEntry_100 : decode cX0_afterEntry 100 = .ok (.iaload, 1) := by decide +kernel
theorem dX0_afterEntry_101 : decode cX0_afterEntry 101 = .ok (.if_icmp .ne 7, 3) := by decide +kernel
theorem dX0_afterEntry_104 : decode cX0_afterEntry 104 = .ok (.iload_n 2, 1) := by decide +kernel
theorem dX0_afterEntry_105 : decode cX0_afterEntry 105 = .ok (.goto 5, 3) := by decide +kernel
theorem dX0_afterEntry_108 : decode cX0_afterEntry 108 = .ok (.bipush (-5), 2) := by decide +kernel
theorem dX0_afterEntry_110 : decode cX0_afterEntry 110 = .ok (.ireturn, 1) := by decide +kernel
theorem dX0_afterEntry_111 : decode cX0_afterEntry 111 = .ok (.iload_n 2, 1) := by decide +kernel
theorem dX0_afterEntry_112 : decode cX0_afterEntry 112 = .ok (.aload_n 0, 1) := by decide +kernel
theorem dX0_afterEntry_113 : decode cX0_afterEntry 113 = .ok (.getfield 19, 3) := by decide +kernel
theorem dX0_afterEntry_116 : decode cX0_afterEntry 116 = .ok (.iload_n 3, 1) := by decide +kernel
theorem dX0_afterEntry_117 : decode cX0_afterEntry 117 = .ok (.iaload, 1) := by decide +kernel
theorem dX0_afterEntry_118 : decode cX0_afterEntry 118 = .ok (.if_icmp .ne 7, 3) := by decide +kernel
theorem dX0_afterEntry_121 : decode cX0_afterEntry 121 = .ok (.iload_n 2, 1) := by decide +kernel
theorem dX0_afterEntry_122 : decode cX0_afterEntry 122 = .ok (.goto 5, 3) := by decide +kernel
theorem dX0_afterEntry_125 : decode cX0_afterEntry 125 = .ok (.bipush (-6), 2) := by decide +kernel
theorem dX0_afterEntry_127 : decode cX0_afterEntry 127 = .ok (.ireturn, 1) := by decide +kernel
theorem dX0_afterEntry_128 : decode cX0_afterEntry 128 = .ok (.aload_n 0, 1) := by decide +kernel
theorem dX0_afterEntry_129 : decode cX0_afterEntry 129 = .ok (.getfield 19, 3) := by decide +kernel
theorem dX0_afterEntry_132 : decode cX0_afterEntry 132 = .ok (.iload_n 3, 1) := by decide +kernel
theorem dX0_afterEntry_133 : decode cX0_afterEntry 133 = .ok (.iload_n 2, 1) := by decide +kernel
theorem dX0_afterEntry_134 : decode cX0_afterEntry 134 = .ok (.iastore, 1) := by decide +kernel
theorem dX0_afterEntry_135 : decode cX0_afterEntry 135 = .ok (.iload_n 2, 1) := by decide +kernel
theorem dX0_afterEntry_136 : decode cX0_afterEntry 136 = .ok (.ireturn, 1) := by decide +kernel
theorem dX0_afterEntry_137 : decode cX0_afterEntry 137 = .ok (.aload_n 0, 1) := by decide +kernel
theorem dX0_afterEntry_138 : decode cX0_afterEntry 138 = .ok (.getfield 19, 3) := by decide +kernel
theorem dX0_afterEntry_141 : decode cX0_afterEntry 141 = .ok (.iload_n 3, 1) := by decide +kernel
theorem dX0_afterEntry_142 : decode cX0_afterEntry 142 = .ok (.iload_n 2, 1) := by decide +kernel
theorem dX0_afterEntry_143 : decode cX0_afterEntry 143 = .ok (.iastore, 1) := by decide +kernel
theorem dX0_afterEntry_144 : decode cX0_afterEntry 144 = .ok (.aload_n 0, 1) := by decide +kernel
theorem dX0_afterEntry_145 : decode cX0_afterEntry 145 = .ok (.getfield 9, 3) := by decide +kernel
theorem dX0_afterEntry_148 : decode cX0_afterEntry 148 = .ok (.iload_n 1, 1) := by decide +kernel
theorem dX0_afterEntry_149 : decode cX0_afterEntry 149 = .ok (.iload_n 2, 1) := by decide +kernel
theorem dX0_afterEntry_150 : decode cX0_afterEntry 150 = .ok (.aload_n 0, 1) := by decide +kernel
theorem dX0_afterEntry_151 : decode cX0_afterEntry 151 = .ok (.getfield 15, 3) := by decide +kernel
theorem dX0_afterEntry_154 : decode cX0_afterEntry 154 = .ok (.invokevirtual 72, 3) := by decide +kernel
theorem dX0_afterEntry_157 : decode cX0_afterEntry 157 = .ok (.ireturn, 1) := by decide +kernel
theorem dX1_init_0 : decode cX1_init 0 = .ok (.aload_n 0, 1) := by decide +kernel
theorem dX1_init_1 : decode cX1_init 1 = .ok (.invokespecial 3, 3) := by decide +kernel
theorem dX1_init_4 : decode cX1_init 4 = .ok (.aload_n 0, 1) := by decide +kernel
theorem dX1_init_5 : decode cX1_init 5 = .ok (.bipush 120, 2) := by decide +kernel
theorem dX1_init_7 : decode cX1_init 7 = .ok (.newarray .int, 2) := by decide +kernel
theorem dX1_init_9 : decode cX1_init 9 = .ok (.putfield 9, 3) := by decide +kernel
theorem dX1_init_12 : decode cX1_init 12 = .ok (.aload_n 0, 1) := by decide +kernel
theorem dX1_init_13 : decode cX1_init 13 = .ok (.bipush 120, 2) := by decide +kernel
theorem dX1_init_15 : decode cX1_init 15 = .ok (.newarray .int, 2) := by decide +kernel
theorem dX1_init_17 : decode cX1_init 17 = .ok (.putfield 15, 3) := by decide +kernel
theorem dX1_init_20 : decode cX1_init 20 = .ok (.aload_n 0, 1) := by decide +kernel
theorem dX1_init_21 : decode cX1_init 21 = .ok (.bipush 120, 2) := by decide +kernel
theorem dX1_init_23 : decode cX1_init 23 = .ok (.newarray .int, 2) := by decide +kernel
theorem dX1_init_25 : decode cX1_init 25 = .ok (.putfield 18, 3) := by decide +kernel
theorem dX1_init_28 : decode cX1_init 28 = .ok (.aload_n 0, 1) := by decide +kernel
theorem dX1_init_29 : decode cX1_init 29 = .ok (.bipush 120, 2) := by decide +kernel
theorem dX1_init_31 : decode cX1_init 31 = .ok (.newarray .int, 2) := by decide +kernel
theorem dX1_init_33 : decode cX1_init 33 = .ok (.putfield 21, 3) := by decide +kernel
theorem dX1_init_36 : decode cX1_init 36 = .ok (.aload_n 0, 1) := by decide +kernel
theorem dX1_init_37 : decode cX1_init 37 = .ok (.bipush 120, 2) := by decide +kernel
theorem dX1_init_39 : decode cX1_init 39 = .ok (.newarray .int, 2) := by decide +kernel
theorem dX1_init_41 : decode cX1_init 41 = .ok (.putfield 24, 3) := by decide +kernel
theorem dX1_init_44 : decode cX1_init 44 = .ok (.aload_n 0, 1) := by decide +kernel
theorem dX1_init_45 : decode cX1_init 45 = .ok (.bipush 6, 2) := by decide +kernel
theorem dX1_init_47 : decode cX1_init 47 = .ok (.newarray .int, 2) := by decide +kernel
theorem dX1_init_49 : decode cX1_init 49 = .ok (.putfield 27, 3) := by decide +kernel
theorem dX1_init_52 : decode cX1_init 52 = .ok (.return_, 1) := by decide +kernel
theorem dX1_removeAll_0 : decode cX1_removeAll 0 = .ok (.aload_n 0, 1) := by decide +kernel
theorem dX1_removeAll_1 : decode cX1_removeAll 1 = .ok (.iconst 0, 1) := by decide +kernel
theorem dX1_removeAll_2 : decode cX1_removeAll 2 = .ok (.putfield 30, 3) := by decide +kernel
theorem dX1_removeAll_5 : decode cX1_removeAll 5 = .ok (.aload_n 0, 1) := by decide +kernel
theorem dX1_removeAll_6 : decode cX1_removeAll 6 = .ok (.iconst 0, 1) := by decide +kernel
theorem dX1_removeAll_7 : decode cX1_removeAll 7 = .ok (.putfield 34, 3) := by decide +kernel
theorem dX1_removeAll_10 : decode cX1_removeAll 10 = .ok (.aload_n 0, 1) := by decide +kernel
theorem dX1_removeAll_11 : decode cX1_removeAll 11 = .ok (.iconst 0, 1) := by decide +kernel
theorem dX1_removeAll_12 : decode cX1_removeAll 12 = .ok (.putfield 37, 3) := by decide +kernel
theorem dX1_removeAll_15 : decode cX1_removeAll 15 = .ok (.return_, 1) := by decide +kernel
theorem dX1_hasOpenBlocks_0 : decode cX1_hasOpenBlocks 0 = .ok (.aload_n 0, 1) := by decide +kernel
theorem dX1_hasOpenBlocks_1 : decode cX1_hasOpenBlocks 1 = .ok (.getfield 37, 3) := by decide +kernel
theorem dX1_hasOpenBlocks_4 : decode cX1_hasOpenBlocks 4 = .ok (.ifCond .le 7, 3) := by decide +kernel
theorem dX1_hasOpenBlocks_7 : decode cX1_hasOpenBlocks 7 = .ok (.iconst 1, 1) := by decide +kernel
theorem dX1_hasOpenBlocks_8 : decode cX1_hasOpenBlocks 8 = .ok (.goto 4, 3) := by decide +kernel
theorem dX1_hasOpenBlocks_11 : decode cX1_hasOpenBlocks 11 = .ok (.iconst 0, 1) := by decide +kernel
theorem dX1_hasOpenBlocks_12 : decode cX1_hasOpenBlocks 12 = .ok (.ireturn, 1) := by decide +kernel
set_option maxRecDepth 20000 in
theorem ggX1_hasEntry_X4_isBelow : GoodIn wsX1_hasEntry wsX4_isBelow := goodIn_r _ [4] (by decide +kernel) (by decide +kernel)
set_option maxRecDepth 20000 in
theorem gX1_hasEntry_X4_isBelow_n40 : GoodIn wsX1_hasEntry (wsX4_isBelow) := ggX1_hasEntry_X4_isBelow
theorem dX1_hasEntry_0 : decode cX1_hasEntry 0 = .ok (.iload_n 1, 1) := by decide +kernel
theorem dX1_hasEntry_1 : decode cX1_hasEntry 1 = .ok (.aload_n 0, 1) := by decide +kernel
theorem dX1_hasEntry_2 : decode cX1_hasEntry 2 = .ok (.getfield 30, 3) := by decide +kernel
theorem dX1_hasEntry_5 : decode cX1_hasEntry 5 = .ok (.invokestatic 40, 3) := by decide +kernel
theorem dX1_hasEntry_8 : decode cX1_hasEntry 8 = .ok (.ireturn, 1) := by decide +kernel
set_option maxRecDepth 20000 in
theorem ggX1_addSimple_X1_addEntry : GoodIn wsX1_addSimple wsX1_addEntry := goodIn_r _ [6, 7, 8, 9, 10, 11, 12, 13, 14, 15, 16, 17, 18, 19, 20] (by decide +kernel) (by decide +kernel)
set_option maxRecDepth 20000 in
theorem gX1_addSimple_X1_addEntry : GoodIn wsX1_addSimple (wsV RX1 44 RX1 yX1_addEntry wsX1_addEntry) := goodIn_app (goodIn_of _ (by decide +kernel)) ggX1_addSimple_X1_addEntry
theorem dX1_addSimple_0 : decode cX1_addSimple 0 = .ok (.aload_n 0, 1) := by decide +kernel
theorem dX1_addSimple_1 : decode cX1_addSimple 1 = .ok (.getfield 34, 3) := by decide +kernel
theorem dX1_addSimple_4 : decode cX1_addSimple 4 = .ok (.bipush 40, 2) := by decide +kernel
theorem dX1_addSimple_6 : decode cX1_addSimple 6 = .ok (.if_icmp .lt 5, 3) := by decide +kernel
theorem dX1_addSimple_9 : decode cX1_addSimple 9 = .ok (.iconst (-1), 1) := by decide +kernel
theorem dX1_addSimple_10 : decode cX1_addSimple 10 = .ok (.ireturn, 1) := by decide +kernel
theorem dX1_addSimple_11 : decode cX1_addSimple 11 = .ok (.aload_n 0, 1) := by decide +kernel
theorem dX1_addSimple_12 : decode cX1_addSimple 12 = .ok (.iload_n 1, 1) := by decide +kernel
theorem dX1_addSimple_13 : decode cX1_addSimple 13 = .ok (.aload_n 0, 1) := by decide +kernel
theorem dX1_addSimple_14 : decode cX1_addSimple 14 = .ok (.getfield 34, 3) := by decide +kernel
theorem dX1_addSimple_17 : decode cX1_addSimple 17 = .ok (.iload_n 2, 1) := by decide +kernel
theorem dX1_addSimple_18 : decode cX1_addSimple 18 = .ok (.iload_n 3, 1) := by decide +kernel
theorem dX1_addSimple_19 : decode cX1_addSimple 19 = .ok (.invokevirtual 44, 3) := by decide +kernel
theorem dX1_addSimple_22 : decode cX1_addSimple 22 = .ok (.aload_n 0, 1) := by decide +kernel
theorem dX1_addSimple_23 : decode cX1_addSimple 23 = .ok (.dup, 1) := by decide +kernel
theorem dX1_addSimple_24 : decode cX1_addSimple 24 = .ok (.getfield 34, 3) := by decide +kernel
theorem dX1_addSimple_27 : decode cX1_addSimple 27 = .ok (.dup_x1, 1) := by decide +kernel
theorem dX1_addSimple_28 : decode cX1_addSimple 28 = .ok (.iconst 1, 1) := by decide +kernel
theorem dX1_addSimple_29 : decode cX1_addSimple 29 = .ok (.iadd, 1) := by decide +kernel
theorem dX1_addSimple_30 : decode cX1_addSimple 30 = .ok (.putfield 34, 3) := by decide +kernel
theorem dX1_addSimple_33 : decode cX1_addSimple 33 = .ok (.ireturn, 1) := by decide +kernel
set_option maxRecDepth 20000 in
theorem ggX1_addOpening_X1_addEntry : GoodIn wsX1_addOpening wsX1_addEntry := goodIn_r _ [9, 4, 10, 11, 12, 13, 14, 15, 16, 17, 18, 19, 20, 21, 22] (by decide +kernel) (by decide +kernel)
set_option maxRecDepth 20000 in
theorem gX1_addOpening_X1_addEntry : GoodIn wsX1_addOpening (wsV RX1 44 RX1 yX1_addEntry wsX1_addEntry) := goodIn_app (goodIn_of _ (by decide +kernel)) ggX1_addOpening_X1_addEntry
theorem dX1_addOpening_0 : decode cX1_addOpening 0 = .ok (.aload_n 0, 1) := by decide +kernel
theorem dX1_addOpening_1 : decode cX1_addOpening 1 = .ok (.getfield 34, 3) := by decide +kernel
theorem dX1_addOpening_4 : decode cX1_addOpening 4 = .ok (.bipush 40, 2) := by decide +kernel
theorem dX1_addOpening_6 : decode cX1_addOpening 6 = .ok (.if_icmp .ge 12, 3) := by decide +kernel
theorem dX1_addOpening_9 : decode cX1_addOpening 9 = .ok (.aload_n 0, 1) := by decide +kernel
theorem dX1_addOpening_10 : decode cX1_addOpening 10 = .ok (.getfield 37, 3) := by decide +kernel
theorem dX1_addOpening_13 : decode cX1_addOpening 13 = .ok (.bipush 6, 2) := by decide +kernel
theorem dX1_addOpening_15 : decode cX1_addOpening 15 = .ok (.if_icmp .lt 5, 3) := by decide +kernel
theorem dX1_addOpening_18 : decode cX1_addOpening 18 = .ok (.iconst (-1), 1) := by decide +kernel
theorem dX1_addOpening_19 : decode cX1_addOpening 19 = .ok (.ireturn, 1) := by decide +kernel
theorem dX1_addOpening_20 : decode cX1_addOpening 20 = .ok (.aload_n 0, 1) := by decide +kernel
theorem dX1_addOpening_21 : decode cX1_addOpening 21 = .ok (.getfield 27, 3) := by decide +kernel
theorem dX1_addOpening_24 : decode cX1_addOpening 24 = .ok (.aload_n 0, 1) := by decide +kernel
theorem dX1_addOpening_25 : decode cX1_addOpening 25 = .ok (.getfield 37, 3) := by decide +kernel
theorem dX1_addOpening_28 : decode cX1_addOpening 28 = .ok (.aload_n 0, 1) := by decide +kernel
theorem dX1_addOpening_29 : decode cX1_addOpening 29 = .ok (.getfield 30, 3) := by decide +kernel
theorem dX1_addOpening_32 : decode cX1_addOpening 32 = .ok (.iastore, 1) := by decide +kernel
theorem dX1_addOpening_33 : decode cX1_addOpening 33 = .ok (.aload_n 0, 1) := by decide +kernel
theorem dX1_addOpening_34 : decode cX1_addOpening 34 = .ok (.dup, 1) := by decide +kernel
theorem dX1_addOpening_35 : decode cX1_addOpening 35 = .ok (.getfield 37, 3) := by decide +kernel
theorem dX1_addOpening_38 : decode cX1_addOpening 38 = .ok (.iconst 1, 1) := by decide +kernel
theorem dX1_addOpening_39 : decode cX1_addOpening 39 = .ok (.iadd, 1) := by decide +kernel
theorem dX1_addOpening_40 : decode cX1_addOpening 40 = .ok (.putfield 37, 3) := by decide +kernel
theorem dX1_addOpening_43 : decode cX1_addOpening 43 = .ok (.aload_n 0, 1) := by decide +kernel
theorem dX1_addOpening_44 : decode cX1_addOpening 44 = .ok (.iload_n 1, 1) := by decide +kernel
theorem dX1_addOpening_45 : decode cX1_addOpening 45 = .ok (.aload_n 0, 1) := by decide +kernel
theorem dX1_addOpening_46 : decode cX1_addOpening 46 = .ok (.getfield 34, 3) := by decide +kernel
theorem dX1_addOpening_49 : decode cX1_addOpening 49 = .ok (.iconst 0, 1) := by decide +kernel
theorem dX1_addOpening_50 : decode cX1_addOpening 50 = .ok (.iconst 0, 1) := by decide +kernel
theorem dX1_addOpening_51 : decode cX1_addOpening 51 = .ok (.invokevirtual 44, 3) := by decide +kernel
theorem dX1_addOpening_54 : decode cX1_addOpening 54 = .ok (.aload_n 0, 1) := by decide +kernel
theorem dX1_addOpening_55 : decode cX1_addOpening 55 = .ok (.dup, 1) := by decide +kernel
theorem dX1_addOpening_56 : decode cX1_addOpening 56 = .ok (.getfield 34, 3) := by decide +kernel
theorem dX1_addOpening_59 : decode cX1_addOpening 59 = .ok (.dup_x1, 1) := by decide +kernel
theorem dX1_addOpening_60 : decode cX1_addOpening 60 = .ok (.iconst 1, 1) := by decide +kernel
theorem dX1_addOpening_61 : decode cX1_addOpening 61 = .ok (.iadd, 1) := by decide +kernel
theorem dX1_addOpening_62 : decode cX1_addOpening 62 = .ok (.putfield 34, 3) := by decide +kernel
theorem dX1_addOpening_65 : decode cX1_addOpening 65 = .ok (.ireturn, 1) := by decide +kernel
set_option maxRecDepth 20000 in
theorem ggX1_beginElse_X1_lastOpened : GoodIn wsX1_beginElse wsX1_lastOpened := goodIn_r _ [11, 3, 2, 25, 26, 27, 28, 29, 30, 31, 32, 33] (by decide +kernel) (by decide +kernel)
set_option maxRecDepth 20000 in
theorem gX1_beginElse_X1_lastOpened : GoodIn wsX1_beginElse (wsV RX1 48 RX1 yX1_lastOpened wsX1_lastOpened) := goodIn_app (goodIn_of _ (by decide +kernel)) ggX1_beginElse_X1_lastOpened
set_option maxRecDepth 20000 in
theorem ggX1_beginElse_X1_hasEntry : GoodIn wsX1_beginElse wsX1_hasEntry := goodIn_r _ [15, 4, 16, 17, 18, 25, 26, 27, 28, 29, 30, 31, 32, 33] (by decide +kernel) (by decide +kernel)
set_option maxRecDepth 20000 in
theorem gX1_beginElse_X1_hasEntry : GoodIn wsX1_beginElse (wsV RX1 52 RX1 yX1_hasEntry wsX1_hasEntry) := goodIn_app (goodIn_of _ (by decide +kernel)) ggX1_beginElse_X1_hasEntry
set_option maxRecDepth 20000 in
theorem ggX1_beginElse_X1_addEntry : GoodIn wsX1_beginElse wsX1_addEntry := goodIn_r _ [22, 4, 1, 5, 23, 24, 25, 26, 27, 28, 29, 30, 31, 32, 33] (by decide +kernel) (by decide +kernel)
set_option maxRecDepth 20000 in
theorem gX1_beginElse_X1_addEntry : GoodIn wsX1_beginElse (wsV RX1 44 RX1 yX1_addEntry wsX1_addEntry) := goodIn_app (goodIn_of _ (by decide +kernel)) ggX1_beginElse_X1_addEntry
theorem dX1_beginElse_0 : decode cX1_beginElse 0 = .ok (.aload_n 0, 1) := by decide +kernel
theorem dX1_beginElse_1 : decode cX1_beginElse 1 = .ok (.invokevirtual 48, 3) := by decide +kernel
theorem dX1_beginElse_4 : decode cX1_beginElse 4 = .ok (.istore_n 1, 1) := by decide +kernel
theorem dX1_beginElse_5 : decode cX1_beginElse 5 = .ok (.aload_n 0, 1) := by decide +kernel
theorem dX1_beginElse_6 : decode cX1_beginElse 6 = .ok (.iload_n 1, 1) := by decide +kernel
theorem dX1_beginElse_7 : decode cX1_beginElse 7 = .ok (.invokevirtual 52, 3) := by decide +kernel
theorem dX1_beginElse_10 : decode cX1_beginElse 10 = .ok (.ifCond .eq 13, 3) := by decide +kernel
theorem dX1_beginElse_13 : decode cX1_beginElse 13 = .ok (.aload_n 0, 1) := by decide +kernel
theorem dX1_beginElse_14 : decode cX1_beginElse 14 = .ok (.getfield 9, 3) := by decide +kernel
theorem dX1_beginElse_17 : decode cX1_beginElse 17 = .ok (.iload_n 1, 1) := by decide +kernel
theorem dX1_beginElse_18 : decode cX1_beginElse 18 = .ok (.iaload, 1) := by decide +kernel
theorem dX1_beginElse_19 : decode cX1_beginElse 19 = .ok (.iconst 4, 1) := by decide +kernel
theorem dX1_beginElse_20 : decode cX1_beginElse 20 = .ok (.if_icmp .eq 5, 3) := by decide +kernel
theorem dX1_beginElse_23 : decode cX1_beginElse 23 = .ok (.iconst 0, 1) := by decide +kernel
theorem dX1_beginElse_24 : decode cX1_beginElse 24 = .ok (.ireturn, 1) := by decide +kernel
theorem dX1_beginElse_25 : decode cX1_beginElse 25 = .ok (.aload_n 0, 1) := by decide +kernel
theorem dX1_beginElse_26 : decode cX1_beginElse 26 = .ok (.getfield 27, 3) := by decide +kernel
theorem dX1_beginElse_29 : decode cX1_beginElse 29 = .ok (.aload_n 0, 1) := by decide +kernel
theorem dX1_beginElse_30 : decode cX1_beginElse 30 = .ok (.getfield 37, 3) := by decide +kernel
theorem dX1_beginElse_33 : decode cX1_beginElse 33 = .ok (.iconst 1, 1) := by decide +kernel
theorem dX1_beginElse_34 : decode cX1_beginElse 34 = .ok (.isub, 1) := by decide +kernel
theorem dX1_beginElse_35 : decode cX1_beginElse 35 = .ok (.aload_n 0, 1) := by decide +kernel
theorem dX1_beginElse_36 : decode cX1_beginElse 36 = .ok (.getfield 30, 3) := by decide +kernel
theorem dX1_beginElse_39 : decode cX1_beginElse 39 = .ok (.iastore, 1) := by decide +kernel
theorem dX1_beginElse_40 : decode cX1_beginElse 40 = .ok (.aload_n 0, 1) := by decide +kernel
theorem dX1_beginElse_41 : decode cX1_beginElse 41 = .ok (.iconst 5, 1) := by decide +kernel
theorem dX1_beginElse_42 : decode cX1_beginElse 42 = .ok (.aload_n 0, 1) := by decide +kernel
theorem dX1_beginElse_43 : decode cX1_beginElse 43 = .ok (.getfield 15, 3) := by decide +kernel
theorem dX1_beginElse_46 : decode cX1_beginElse 46 = .ok (.iload_n 1, 1) := by decide +kernel
theorem dX1_beginElse_47 : decode cX1_beginElse 47 = .ok (.iaload, 1) := by decide +kernel
theorem dX1_beginElse_48 : decode cX1_beginElse 48 = .ok (.iconst 0, 1) := by decide +kernel
theorem dX1_beginElse_49 : decode cX1_beginElse 49 = .ok (.iconst 0, 1) := by decide +kernel
theorem dX1_beginElse_50 : decode cX1_beginElse 50 = .ok (.invokevirtual 44, 3) := by decide +kernel
theorem dX1_beginElse_53 : decode cX1_beginElse 53 = .ok (.aload_n 0, 1) := by decide +kernel
theorem dX1_beginElse_54 : decode cX1_beginElse 54 = .ok (.getfield 24, 3) := by decide +kernel
theorem dX1_beginElse_57 : decode cX1_beginElse 57 = .ok (.iload_n 1, 1) := by decide +kernel
theorem dX1_beginElse_58 : decode cX1_beginElse 58 = .ok (.aload_n 0, 1) := by decide +kernel
theorem dX1_beginElse_59 : decode cX1_beginElse 59 = .ok (.getfield 30, 3) := by decide +kernel
theorem dX1_beginElse_62 : decode cX1_beginElse 62 = .ok (.iastore, 1) := by decide +kernel
theorem dX1_beginElse_63 : decode cX1_beginElse 63 = .ok (.iconst 1, 1) := by decide +kernel
theorem dX1_beginElse_64 : decode cX1_beginElse 64 = .ok (.ireturn, 1) := by decide +kernel
set_option maxRecDepth 20000 in
theorem ggX1_endBlock_X1_beginElse : GoodIn wsX1_endBlock wsX1_beginElse := goodIn_r _ [10, 2, 11, 5, 1, 3, 4, 12, 13, 14, 9, 15, 16, 17, 18, 19, 20, 21, 22, 23, 24, 25, 26, 27, 28, 29, 30, 31, 32, 33, 34, 35, 36, 37] (by decide +kernel) (by decide +kernel)
set_option maxRecDepth 20000 in
theorem gX1_endBlock_X1_beginElse : GoodIn wsX1_endBlock (wsV RX1 56 RX1 yX1_beginElse wsX1_beginElse) := goodIn_app (goodIn_of _ (by decide +kernel)) ggX1_endBlock_X1_beginElse
set_option maxRecDepth 20000 in
theorem ggX1_endBlock_X1_lastOpened : GoodIn wsX1_endBlock wsX1_lastOpened := goodIn_r _ [15, 5, 11, 29, 30, 31, 32, 33, 34, 35, 36, 37] (by decide +kernel) (by decide +kernel)
set_option maxRecDepth 20000 in
theorem gX1_endBlock_X1_lastOpened : GoodIn wsX1_endBlock (wsV RX1 48 RX1 yX1_lastOpened wsX1_lastOpened) := goodIn_app (goodIn_of _ (by decide +kernel)) ggX1_endBlock_X1_lastOpened
set_option maxRecDepth 20000 in
theorem ggX1_endBlock_X1_hasEntry : GoodIn wsX1_endBlock wsX1_hasEntry := goodIn_r _ [19, 1, 20, 21, 22, 29, 30, 31, 32, 33, 34, 35, 36, 37] (by decide +kernel) (by decide +kernel)
set_option maxRecDepth 20000 in
theorem gX1_endBlock_X1_hasEntry : GoodIn wsX1_endBlock (wsV RX1 52 RX1 yX1_hasEntry wsX1_hasEntry) := goodIn_app (goodIn_of _ (by decide +kernel)) ggX1_endBlock_X1_hasEntry
set_option maxRecDepth 20000 in
theorem ggX1_endBlock_X1_addEntry : GoodIn wsX1_endBlock wsX1_addEntry := goodIn_r _ [26, 1, 2, 3, 27, 28, 29, 30, 31, 32, 33, 34, 35, 36, 37] (by decide +kernel) (by decide +kernel)
set_option maxRecDepth 20000 in
theorem gX1_endBlock_X1_addEntry : GoodIn wsX1_endBlock (wsV RX1 44 RX1 yX1_addEntry wsX1_addEntry) := goodIn_app (goodIn_of _ (by decide +kernel)) ggX1_endBlock_X1_addEntry
theorem dX1_endBlock_0 : decode cX1_endBlock 0 = .ok (.aload_n 0, 1) := by decide +kernel
theorem dX1_endBlock_1 : decode cX1_endBlock 1 = .ok (.invokevirtual 56, 3) := by decide +kernel
theorem dX1_endBlock_4 : decode cX1_endBlock 4 = .ok (.pop, 1) := by decide +kernel
theorem dX1_endBlock_5 : decode cX1_endBlock 5 = .ok (.aload_n 0, 1) := by decide +kernel
theorem dX1_endBlock_6 : decode cX1_endBlock 6 = .ok (.invokevirtual 48, 3) := by decide +kernel
theorem dX1_endBlock_9 : decode cX1_endBlock 9 = .ok (.istore_n 1, 1) := by decide +kernel
theorem dX1_endBlock_10 : decode cX1_endBlock 10 = .ok (.aload_n 0, 1) := by decide +kernel
theorem dX1_endBlock_11 : decode cX1_endBlock 11 = .ok (.iload_n 1, 1) := by decide +kernel
theorem dX1_endBlock_12 : decode cX1_endBlock 12 = .ok (.invokevirtual 52, 3) := by decide +kernel
theorem dX1_endBlock_15 : decode cX1_endBlock 15 = .ok (.ifCond .ne 5, 3) := by decide +kernel
theorem dX1_endBlock_18 : decode cX1_endBlock 18 = .ok (.iconst 0, 1) := by decide +kernel
theorem dX1_endBlock_19 : decode cX1_endBlock 19 = .ok (.ireturn, 1) := by decide +kernel
theorem dX1_endBlock_20 : decode cX1_endBlock 20 = .ok (.aload_n 0, 1) := by decide +kernel
theorem dX1_endBlock_21 : decode cX1_endBlock 21 = .ok (.getfield 30, 3) := by decide +kernel
theorem dX1_endBlock_24 : decode cX1_endBlock 24 = .ok (.istore_n 2, 1) := by decide +kernel
theorem dX1_endBlock_25 : decode cX1_endBlock 25 = .ok (.aload_n 0, 1) := by decide +kernel
theorem dX1_endBlock_26 : decode cX1_endBlock 26 = .ok (.aload_n 0, 1) := by decide +kernel
theorem dX1_endBlock_27 : decode cX1_endBlock 27 = .ok (.getfield 9, 3) := by decide +kernel
theorem dX1_endBlock_30 : decode cX1_endBlock 30 = .ok (.iload_n 1, 1) := by decide +kernel
theorem dX1_endBlock_31 : decode cX1_endBlock 31 = .ok (.iaload, 1) := by decide +kernel
theorem dX1_endBlock_32 : decode cX1_endBlock 32 = .ok (.bipush 7, 2) := by decide +kernel
theorem dX1_endBlock_34 : decode cX1_endBlock 34 = .ok (.if_icmp .ne 8, 3) := by decide +kernel
theorem dX1_endBlock_37 : decode cX1_endBlock 37 = .ok (.bipush 8, 2) := by decide +kernel
theorem dX1_endBlock_39 : decode cX1_endBlock 39 = .ok (.goto 5, 3) := by decide +kernel
theorem dX1_endBlock_42 : decode cX1_endBlock 42 = .ok (.bipush 6, 2) := by decide +kernel
theorem dX1_endBlock_44 : decode cX1_endBlock 44 = .ok (.aload_n 0, 1) := by decide +kernel
theorem dX1_endBlock_45 : decode cX1_endBlock 45 = .ok (.getfield 15, 3) := by decide +kernel
theorem dX1_endBlock_48 : decode cX1_endBlock 48 = .ok (.iload_n 1, 1) := by decide +kernel
theorem dX1_endBlock_49 : decode cX1_endBlock 49 = .ok (.iaload, 1) := by decide +kernel
theorem dX1_endBlock_50 : decode cX1_endBlock 50 = .ok (.iconst 0, 1) := by decide +kernel
theorem dX1_endBlock_51 : decode cX1_endBlock 51 = .ok (.iconst 0, 1) := by decide +kernel
theorem dX1_endBlock_52 : decode cX1_endBlock 52 = .ok (.invokevirtual 44, 3) := by decide +kernel
theorem dX1_endBlock_55 : decode cX1_endBlock 55 = .ok (.aload_n 0, 1) := by decide +kernel
theorem dX1_endBlock_56 : decode cX1_endBlock 56 = .ok (.getfield 24, 3) := by decide +kernel
theorem dX1_endBlock_59 : decode cX1_endBlock 59 = .ok (.iload_n 1, 1) := by decide +kernel
theorem dX1_endBlock_60 : decode cX1_endBlock 60 = .ok (.aload_n 0, 1) := by decide +kernel
theorem dX1_endBlock_61 : decode cX1_endBlock 61 = .ok (.getfield 30, 3) := by decide +kernel
theorem dX1_endBlock_64 : decode cX1_endBlock 64 = .ok (.iastore, 1) := by decide +kernel
theorem dX1_endBlock_65 : decode cX1_endBlock 65 = .ok (.aload_n 0, 1) := by decide +kernel
theorem dX1_endBlock_66 : decode cX1_endBlock 66 = .ok (.getfield 9, 3) := by decide +kernel
theorem dX1_endBlock_69 : decode cX1_endBlock 69 = .ok (.iload_n 1, 1) := by decide +kernel
theorem dX1_endBlock_70 : decode cX1_endBlock 70 = .ok (.iaload, 1) := by decide +kernel
theorem dX1_endBlock_71 : decode cX1_endBlock 71 = .ok (.bipush 7, 2) := by decide +kernel
theorem dX1_endBlock_73 : decode cX1_endBlock 73 = .ok (.if_icmp .ne 18, 3) := by decide +kernel
theorem dX1_endBlock_76 : decode cX1_endBlock 76 = .ok (.aload_n 0, 1) := by decide +kernel
theorem dX1_endBlock_77 : decode cX1_endBlock 77 = .ok (.iload_n 2, 1) := by decide +kernel
theorem dX1_endBlock_78 : decode cX1_endBlock 78 = .ok (.invokevirtual 52, 3) := by decide +kernel
theorem dX1_endBlock_81 : decode cX1_endBlock 81 = .ok (.ifCond .eq 10, 3) := by decide +kernel
theorem dX1_endBlock_84 : decode cX1_endBlock 84 = .ok (.aload_n 0, 1) := by decide +kernel
theorem dX1_endBlock_85 : decode cX1_endBlock 85 = .ok (.getfield 24, 3) := by decide +kernel
theorem dX1_endBlock_88 : decode cX1_endBlock 88 = .ok (.iload_n 2, 1) := by decide +kernel
theorem dX1_endBlock_89 : decode cX1_endBlock 89 = .ok (.iload_n 1, 1) := by decide +kernel
theorem dX1_endBlock_90 : decode cX1_endBlock 90 = .ok (.iastore, 1) := by decide +kernel
theorem dX1_endBlock_91 : decode cX1_endBlock 91 = .ok (.aload_n 0, 1) := by decide +kernel
theorem dX1_endBlock_92 : decode cX1_endBlock 92 = .ok (.dup, 1) := by decide +kernel
theorem dX1_endBlock_93 : decode cX1_endBlock 93 = .ok (.getfield 37, 3) := by decide +kernel
theorem dX1_endBlock_96 : decode cX1_endBlock 96 = .ok (.iconst 1, 1) := by decide +kernel
theorem dX1_endBlock_97 : decode cX1_endBlock 97 = .ok (.isub, 1) := by decide +kernel
theorem dX1_endBlock_98 : decode cX1_endBlock 98 = .ok (.putfield 37, 3) := by decide +kernel
theorem dX1_endBlock_101 : decode cX1_endBlock 101 = .ok (.iconst 1, 1) := by decide +kernel
theorem dX1_endBlock_102 : decode cX1_endBlock 102 = .ok (.ireturn, 1) := by decide +kernel
theorem dX1_lastOpened_0 : decode cX1_lastOpened 0 = .ok (.aload_n 0, 1) := by decide +kernel
theorem dX1_lastOpened_1 : decode cX1_lastOpened 1 = .ok (.getfield 37, 3) := by decide +kernel
theorem dX1_lastOpened_4 : decode cX1_lastOpened 4 = .ok (.ifCond .le 17, 3) := by decide +kernel
theorem dX1_lastOpened_7 : decode cX1_lastOpened 7 = .ok (.aload_n 0, 1) := by decide +kernel
theorem dX1_lastOpened_8 : decode cX1_lastOpened 8 = .ok (.getfield 27, 3) := by decide +kernel
theorem dX1_lastOpened_11 : decode cX1_lastOpened 11 = .ok (.aload_n 0, 1) := by decide +kernel
theorem dX1_lastOpened_12 : decode cX1_lastOpened 12 = .ok (.getfield 37, 3) := by decide +kernel
theorem dX1_lastOpened_15 : decode cX1_lastOpened 15 = .ok (.iconst 1, 1) := by decide +kernel
theorem dX1_lastOpened_16 : decode cX1_lastOpened 16 = .ok (.isub, 1) := by decide +kernel
theorem dX1_lastOpened_17 : decode cX1_lastOpened 17 = .ok (.iaload, 1) := by decide +kernel
theorem dX1_lastOpened_18 : decode cX1_lastOpened 18 = .ok (.goto 4, 3) := by decide +kernel
theorem dX1_lastOpened_21 : decode cX1_lastOpened 21 = .ok (.iconst (-1), 1) := by decide +kernel
theorem dX1_lastOpened_22 : decode cX1_lastOpened 22 = .ok (.ireturn, 1) := by decide +kernel
theorem dX1_addEntry_0 : decode cX1_addEntry 0 = .ok (.aload_n 0, 1) := by decide +kernel
theorem dX1_addEntry_1 : decode cX1_addEntry 1 = .ok (.getfield 30, 3) := by decide +kernel
theorem dX1_addEntry_4 : decode cX1_addEntry 4 = .ok (.bipush 120, 2) := by decide +kernel
theorem dX1_addEntry_6 : decode cX1_addEntry 6 = .ok (.if_icmp .ge 54, 3) := by decide +kernel
theorem dX1_addEntry_9 : decode cX1_addEntry 9 = .ok (.aload_n 0, 1) := by decide +kernel
theorem dX1_addEntry_10 : decode cX1_addEntry 10 = .ok (.getfield 9, 3) := by decide +kernel
theorem dX1_addEntry_13 : decode cX1_addEntry 13 = .ok (.aload_n 0, 1) := by decide +kernel
theorem dX1_addEntry_14 : decode cX1_addEntry 14 = .ok (.getfield 30, 3) := by decide +kernel
theorem dX1_addEntry_17 : decode cX1_addEntry 17 = .ok (.iload_n 1, 1) := by decide +kernel
theorem dX1_addEntry_18 : decode cX1_addEntry 18 = .ok (.iastore, 1) := by decide +kernel
theorem dX1_addEntry_19 : decode cX1_addEntry 19 = .ok (.aload_n 0, 1) := by decide +kernel
theorem dX1_addEntry_20 : decode cX1_addEntry 20 = .ok (.getfield 15, 3) := by decide +kernel
theorem dX1_addEntry_23 : decode cX1_addEntry 23 = .ok (.aload_n 0, 1) := by decide +kernel
theorem dX1_addEntry_24 : decode cX1_addEntry 24 = .ok (.getfield 30, 3) := by decide +kernel
theorem dX1_addEntry_27 : decode cX1_addEntry 27 = .ok (.iload_n 2, 1) := by decide +kernel
theorem dX1_addEntry_28 : decode cX1_addEntry 28 = .ok (.iastore, 1) := by decide +kernel
theorem dX1_addEntry_29 : decode cX1_addEntry 29 = .ok (.aload_n 0, 1) := by decide +kernel
theorem dX1_addEntry_30 : decode cX1_addEntry 30 = .ok (.getfield 18, 3) := by decide +kernel
theorem dX1_addEntry_33 : decode cX1_addEntry 33 = .ok (.aload_n 0, 1) := by decide +kernel
theorem dX1_addEntry_34 : decode cX1_addEntry 34 = .ok (.getfield 30, 3) := by decide +kernel
theorem dX1_addEntry_37 : decode cX1_addEntry 37 = .ok (.iload_n 3, 1) := by decide +kernel
theorem dX1_addEntry_38 : decode cX1_addEntry 38 = .ok (.iastore, 1) := by decide +kernel
theorem dX1_addEntry_39 : decode cX1_addEntry 39 = .ok (.aload_n 0, 1) := by decide +kernel
theorem dX1_addEntry_40 : decode cX1_addEntry 40 = .ok (.getfield 21, 3) := by decide +kernel
theorem dX1_addEntry_43 : decode cX1_addEntry 43 = .ok (.aload_n 0, 1) := by decide +kernel
theorem dX1_addEntry_44 : decode cX1_addEntry 44 = .ok (.getfield 30, 3) := by decide +kernel
theorem dX1_addEntry_47 : decode cX1_addEntry 47 = .ok (.iload 4, 2) := by decide +kernel
theorem dX1_addEntry_49 : decode cX1_addEntry 49 = .ok (.iastore, 1) := by decide +kernel
theorem dX1_addEntry_50 : decode cX1_addEntry 50 = .ok (.aload_n 0, 1) := by decide +kernel
theorem dX1_addEntry_51 : decode cX1_addEntry 51 = .ok (.dup, 1) := by decide +kernel
theorem dX1_addEntry_52 : decode cX1_addEntry 52 = .ok (.getfield 30, 3) := by decide +kernel
theorem dX1_addEntry_55 : decode cX1_addEntry 55 = .ok (.iconst 1, 1) := by decide +kernel
theorem dX1_addEntry_56 : decode cX1_addEntry 56 = .ok (.iadd, 1) := by decide +kernel
theorem dX1_addEntry_57 : decode cX1_addEntry 57 = .ok (.putfield 30, 3) := by decide +kernel
theorem dX1_addEntry_60 : decode cX1_addEntry 60 = .ok (.return_, 1) := by decide +kernel
set_option maxRecDepth 20000 in
theorem ggX1_afterSimple_X1_hasEntry : GoodIn wsX1_afterSimple wsX1_hasEntry := goodIn_r _ [8, 9, 10, 11, 12, 32, 33, 34, 35, 36, 37, 38, 39, 40] (by decide +kernel) (by decide +kernel)
set_option maxRecDepth 20000 in
theorem gX1_afterSimple_X1_hasEntry : GoodIn wsX1_afterSimple (wsV RX1 52 RX1 yX1_hasEntry wsX1_hasEntry) := goodIn_app (goodIn_of _ (by decide +kernel)) ggX1_afterSimple_X1_hasEntry
set_option maxRecDepth 20000 in
theorem ggX1_afterSimple_X4_heldBy : GoodIn wsX1_afterSimple wsX4_heldBy := goodIn_r _ [14] (by decide +kernel) (by decide +kernel)
set_option maxRecDepth 20000 in
theorem gX1_afterSimple_X4_heldBy_n60 : GoodIn wsX1_afterSimple (wsX4_heldBy) := ggX1_afterSimple_X4_heldBy
set_option maxRecDepth 20000 in
theorem ggX1_afterSimple_X4_objectOf : GoodIn wsX1_afterSimple wsX4_objectOf := goodIn_r _ [16] (by decide +kernel) (by decide +kernel)
set_option maxRecDepth 20000 in
theorem gX1_afterSimple_X4_objectOf_n64 : GoodIn wsX1_afterSimple (wsX4_objectOf) := ggX1_afterSimple_X4_objectOf
set_option maxRecDepth 20000 in
theorem ggX1_afterSimple_X4_withHeld : GoodIn wsX1_afterSimple wsX4_withHeld := goodIn_r _ [18] (by decide +kernel) (by decide +kernel)
set_option maxRecDepth 20000 in
theorem gX1_afterSimple_X4_withHeld_n67 : GoodIn wsX1_afterSimple (wsX4_withHeld) := ggX1_afterSimple_X4_withHeld
set_option maxRecDepth 20000 in
theorem ggX1_afterSimple_X2_targetOf : GoodIn wsX1_afterSimple wsX2_targetOf := goodIn_r _ [23, 24, 10, 11, 12, 41, 42] (by decide +kernel) (by decide +kernel)
set_option maxRecDepth 20000 in
theorem gX1_afterSimple_X2_targetOf : GoodIn wsX1_afterSimple (wsV RX1 71 RX2 yX2_targetOf wsX2_targetOf) := goodIn_app (goodIn_of _ (by decide +kernel)) ggX1_afterSimple_X2_targetOf
set_option maxRecDepth 20000 in
theorem ggX1_afterSimple_X4_protocolOf : GoodIn wsX1_afterSimple wsX4_protocolOf := goodIn_r _ [26] (by decide +kernel) (by decide +kernel)
set_option maxRecDepth 20000 in
theorem gX1_afterSimple_X4_protocolOf_n76 : GoodIn wsX1_afterSimple (wsX4_protocolOf) := ggX1_afterSimple_X4_protocolOf
set_option maxRecDepth 20000 in
theorem ggX1_afterSimple_X2_mayBeLeft : GoodIn wsX1_afterSimple wsX2_mayBeLeft := goodIn_r _ [30, 31, 10, 11, 12, 41, 42] (by decide +kernel) (by decide +kernel)
set_option maxRecDepth 20000 in
theorem gX1_afterSimple_X2_mayBeLeft : GoodIn wsX1_afterSimple (wsV RX1 80 RX2 yX2_mayBeLeft wsX2_mayBeLeft) := goodIn_app (goodIn_of _ (by decide +kernel)) ggX1_afterSimple_X2_mayBeLeft
theorem dX1_afterSimple_0 : decode cX1_afterSimple 0 = .ok (.aload_n 0, 1) := by decide +kernel
theorem dX1_afterSimple_1 : decode cX1_afterSimple 1 = .ok (.iload_n 1, 1) := by decide +kernel
theorem dX1_afterSimple_2 : decode cX1_afterSimple 2 = .ok (.invokevirtual 52, 3) := by decide +kernel
theorem dX1_afterSimple_5 : decode cX1_afterSimple 5 = .ok (.ifCond .ne 5, 3) := by decide +kernel
theorem dX1_afterSimple_8 : decode cX1_afterSimple 8 = .ok (.iload_n 2, 1) := by decide +kernel
theorem dX1_afterSimple_9 : decode cX1_afterSimple 9 = .ok (.ireturn, 1) := by decide +kernel
theorem dX1_afterSimple_10 : decode cX1_afterSimple 10 = .ok (.aload_n 0, 1) := by decide +kernel
theorem dX1_afterSimple_11 : decode cX1_afterSimple 11 = .ok (.getfield 18, 3) := by decide +kernel
theorem dX1_afterSimple_14 : decode cX1_afterSimple 14 = .ok (.iload_n 1, 1) := by decide +kernel
theorem dX1_afterSimple_15 : decode cX1_afterSimple 15 = .ok (.iaload, 1) := by decide +kernel
theorem dX1_afterSimple_16 : decode cX1_afterSimple 16 = .ok (.istore 4, 2) := by decide +kernel
theorem dX1_afterSimple_18 : decode cX1_afterSimple 18 = .ok (.aload_n 0, 1) := by decide +kernel
theorem dX1_afterSimple_19 : decode cX1_afterSimple 19 = .ok (.getfield 21, 3) := by decide +kernel
theorem dX1_afterSimple_22 : decode cX1_afterSimple 22 = .ok (.iload_n 1, 1) := by decide +kernel
theorem dX1_afterSimple_23 : decode cX1_afterSimple 23 = .ok (.iaload, 1) := by decide +kernel
theorem dX1_afterSimple_24 : decode cX1_afterSimple 24 = .ok (.istore 5, 2) := by decide +kernel
theorem dX1_afterSimple_26 : decode cX1_afterSimple 26 = .ok (.iload_n 2, 1) := by decide +kernel
theorem dX1_afterSimple_27 : decode cX1_afterSimple 27 = .ok (.iload 4, 2) := by decide +kernel
theorem dX1_afterSimple_29 : decode cX1_afterSimple 29 = .ok (.invokestatic 60, 3) := by decide +kernel
theorem dX1_afterSimple_32 : decode cX1_afterSimple 32 = .ok (.istore 6, 2) := by decide +kernel
theorem dX1_afterSimple_34 : decode cX1_afterSimple 34 = .ok (.aload_n 0, 1) := by decide +kernel
theorem dX1_afterSimple_35 : decode cX1_afterSimple 35 = .ok (.getfield 9, 3) := by decide +kernel
theorem dX1_afterSimple_38 : decode cX1_afterSimple 38 = .ok (.iload_n 1, 1) := by decide +kernel
theorem dX1_afterSimple_39 : decode cX1_afterSimple 39 = .ok (.iaload, 1) := by decide +kernel
theorem dX1_afterSimple_40 : decode cX1_afterSimple 40 = .ok (.ifCond .ne 26, 3) := by decide +kernel
theorem dX1_afterSimple_43 : decode cX1_afterSimple 43 = .ok (.iload 6, 2) := by decide +kernel
theorem dX1_afterSimple_45 : decode cX1_afterSimple 45 = .ok (.iconst (-1), 1) := by decide +kernel
theorem dX1_afterSimple_46 : decode cX1_afterSimple 46 = .ok (.if_icmp .eq 7, 3) := by decide +kernel
theorem dX1_afterSimple_49 : decode cX1_afterSimple 49 = .ok (.iconst (-1), 1) := by decide +kernel
theorem dX1_afterSimple_50 : decode cX1_afterSimple 50 = .ok (.goto 15, 3) := by decide +kernel
theorem dX1_afterSimple_53 : decode cX1_afterSimple 53 = .ok (.iload_n 2, 1) := by decide +kernel
theorem dX1_afterSimple_54 : decode cX1_afterSimple 54 = .ok (.iload 4, 2) := by decide +kernel
theorem dX1_afterSimple_56 : decode cX1_afterSimple 56 = .ok (.iload 5, 2) := by decide +kernel
theorem dX1_afterSimple_58 : decode cX1_afterSimple 58 = .ok (.iconst 0, 1) := by decide +kernel
theorem dX1_afterSimple_59 : decode cX1_afterSimple 59 = .ok (.invokestatic 64, 3) := by decide +kernel
theorem dX1_afterSimple_62 : decode cX1_afterSimple 62 = .ok (.invokestatic 67, 3) := by decide +kernel
theorem dX1_afterSimple_65 : decode cX1_afterSimple 65 = .ok (.ireturn, 1) := by decide +kernel
theorem dX1_afterSimple_66 : decode cX1_afterSimple 66 = .ok (.iload 6, 2) := by decide +kernel
theorem dX1_afterSimple_68 : decode cX1_afterSimple 68 = .ok (.iconst (-1), 1) := by decide +kernel
theorem dX1_afterSimple_69 : decode cX1_afterSimple 69 = .ok (.if_icmp .ne 6, 3) := by decide +kernel
theorem dX1_afterSimple_72 : decode cX1_afterSimple 72 = .ok (.bipush (-2), 2) := by decide +kernel
theorem dX1_afterSimple_74 : decode cX1_afterSimple 74 = .ok (.ireturn, 1) := by decide +kernel
theorem dX1_afterSimple_75 : decode cX1_afterSimple 75 = .ok (.aload_n 0, 1) := by decide +kernel
theorem dX1_afterSimple_76 : decode cX1_afterSimple 76 = .ok (.getfield 9, 3) := by decide +kernel
theorem dX1_afterSimple_79 : decode cX1_afterSimple 79 = .ok (.iload_n 1, 1) := by decide +kernel
theorem dX1_afterSimple_80 : decode cX1_afterSimple 80 = .ok (.iaload, 1) := by decide +kernel
theorem dX1_afterSimple_81 : decode cX1_afterSimple 81 = .ok (.iconst 1, 1) := by decide +kernel
theorem dX1_afterSimple_82 : decode cX1_afterSimple 82 = .ok (.if_icmp .ne 41, 3) := by decide +kernel
theorem dX1_afterSimple_85 : decode cX1_afterSimple 85 = .ok (.aload_n 3, 1) := by decide +kernel
theorem dX1_afterSimple_86 : decode cX1_afterSimple 86 = .ok (.iload 6, 2) := by decide +kernel
theorem dX1_afterSimple_88 : decode cX1_afterSimple 88 = .ok (.iload 5, 2) := by decide +kernel
theorem dX1_afterSimple_90 : decode cX1_afterSimple 90 = .ok (.invokevirtual 71, 3) := by decide +kernel
theorem dX1_afterSimple_93 : decode cX1_afterSimple 93 = .ok (.istore 7, 2) := by decide +kernel
theorem dX1_afterSimple_95 : decode cX1_afterSimple 95 = .ok (.iload 7, 2) := by decide +kernel
theorem dX1_afterSimple_97 : decode cX1_afterSimple 97 = .ok (.iconst (-1), 1) := by decide +kernel
theorem dX1_afterSimple_98 : decode cX1_afterSimple 98 = .ok (.if_icmp .ne 8, 3) := by decide +kernel
theorem dX1_afterSimple_101 : decode cX1_afterSimple 101 = .ok (.bipush (-3), 2) := by decide +kernel
theorem dX1_afterSimple_103 : decode cX1_afterSimple 103 = .ok (.goto 19, 3) := by decide +kernel
theorem dX1_afterSimple_106 : decode cX1_afterSimple 106 = .ok (.iload_n 2, 1) := by decide +kernel
theorem dX1_afterSimple_107 : decode cX1_afterSimple 107 = .ok (.iload 4, 2) := by decide +kernel
theorem dX1_afterSimple_109 : decode cX1_afterSimple 109 = .ok (.iload 6, 2) := by decide +kernel
theorem dX1_afterSimple_111 : decode cX1_afterSimple 111 = .ok (.invokestatic 76, 3) := by decide +kernel
theorem dX1_afterSimple_114 : decode cX1_afterSimple 114 = .ok (.iload 7, 2) := by decide +kernel
theorem dX1_afterSimple_116 : decode cX1_afterSimple 116 = .ok (.invokestatic 64, 3) := by decide +kernel
theorem dX1_afterSimple_119 : decode cX1_afterSimple 119 = .ok (.invokestatic 67, 3) := by decide +kernel
theorem dX1_afterSimple_122 : decode cX1_afterSimple 122 = .ok (.ireturn, 1) := by decide +kernel
theorem dX1_afterSimple_123 : decode cX1_afterSimple 123 = .ok (.aload_n 0, 1) := by decide +kernel
theorem dX1_afterSimple_124 : decode cX1_afterSimple 124 = .ok (.getfield 9, 3) := by decide +kernel
theorem dX1_afterSimple_127 : decode cX1_afterSimple 127 = .ok (.iload_n 1, 1) := by decide +kernel
theorem dX1_afterSimple_128 : decode cX1_afterSimple 128 = .ok (.iaload, 1) := by decide +kernel
theorem dX1_afterSimple_129 : decode cX1_afterSimple 129 = .ok (.iconst 2, 1) := by decide +kernel
theorem dX1_afterSimple_130 : decode cX1_afterSimple 130 = .ok (.if_icmp .ne 32, 3) := by decide +kernel
theorem dX1_afterSimple_133 : decode cX1_afterSimple 133 = .ok (.iload_n 2, 1) := by decide +kernel
theorem dX1_afterSimple_134 : decode cX1_afterSimple 134 = .ok (.iload 5, 2) := by decide +kernel
theorem dX1_afterSimple_136 : decode cX1_afterSimple 136 = .ok (.invokestatic 60, 3) := by decide +kernel
theorem dX1_afterSimple_139 : decode cX1_afterSimple 139 = .ok (.iconst (-1), 1) := by decide +kernel
theorem dX1_afterSimple_140 : decode cX1_afterSimple 140 = .ok (.if_icmp .eq 7, 3) := by decide +kernel
theorem dX1_afterSimple_143 : decode cX1_afterSimple 143 = .ok (.iconst (-1), 1) := by decide +kernel
theorem dX1_afterSimple_144 : decode cX1_afterSimple 144 = .ok (.goto 17, 3) := by decide +kernel
theorem dX1_afterSimple_147 : decode cX1_afterSimple 147 = .ok (.iload_n 2, 1) := by decide +kernel
theorem dX1_afterSimple_148 : decode cX1_afterSimple 148 = .ok (.iload 4, 2) := by decide +kernel
theorem dX1_afterSimple_150 : decode cX1_afterSimple 150 = .ok (.iconst (-1), 1) := by decide +kernel
theorem dX1_afterSimple_151 : decode cX1_afterSimple 151 = .ok (.invokestatic 67, 3) := by decide +kernel
theorem dX1_afterSimple_154 : decode cX1_afterSimple 154 = .ok (.iload 5, 2) := by decide +kernel
theorem dX1_afterSimple_156 : decode cX1_afterSimple 156 = .ok (.iload 6, 2) := by decide +kernel
theorem dX1_afterSimple_158 : decode cX1_afterSimple 158 = .ok (.invokestatic 67, 3) := by decide +kernel
theorem dX1_afterSimple_161 : decode cX1_afterSimple 161 = .ok (.ireturn, 1) := by decide +kernel
theorem dX1_afterSimple_162 : decode cX1_afterSimple 162 = .ok (.aload_n 3, 1) := by decide +kernel
theorem dX1_afterSimple_163 : decode cX1_afterSimple 163 = .ok (.iload 6, 2) := by decide +kernel
theorem dX1_afterSimple_165 : decode cX1_afterSimple 165 = .ok (.invokevirtual 80, 3) := by decide +kernel
theorem dX1_afterSimple_168 : decode cX1_afterSimple 168 = .ok (.ifCond .eq 13, 3) := by decide +kernel
theorem dX1_afterSimple_171 : decode cX1_afterSimple 171 = .ok (.iload_n 2, 1) := by decide +kernel
theorem dX1_afterSimple_172 : decode cX1_afterSimple 172 = .ok (.iload 4, 2) := by decide +kernel
theorem dX1_afterSimple_174 : decode cX1_afterSimple 174 = .ok (.iconst (-1), 1) := by decide +kernel
theorem dX1_afterSimple_175 : decode cX1_afterSimple 175 = .ok (.invokestatic 67, 3) := by decide +kernel
theorem dX1_afterSimple_178 : decode cX1_afterSimple 178 = .ok (.goto 5, 3) := by decide +kernel
theorem dX1_afterSimple_181 : decode cX1_afterSimple 181 = .ok (.bipush (-4), 2) := by decide +kernel
theorem dX1_afterSimple_183 : decode cX1_afterSimple 183 = .ok (.ireturn, 1) := by decide +kernel
theorem dJ7_fill_53178_0 : decode cJ7_fill_53178 0 = .ok (.iconst 0, 1) := by decide +kernel
theorem dJ7_fill_53178_1 : decode cJ7_fill_53178 1 = .ok (.istore_n 2, 1) := by decide +kernel
theorem dJ7_fill_53178_2 : decode cJ7_fill_53178 2 = .ok (.aload_n 0, 1) := by decide +kernel
theorem dJ7_fill_53178_3 : decode cJ7_fill_53178 3 = .ok (.arraylength, 1) := by decide +kernel
theorem dJ7_fill_53178_4 : decode cJ7_fill_53178 4 = .ok (.istore_n 3, 1) := by decide +kernel
theorem dJ7_fill_53178_5 : decode cJ7_fill_53178 5 = .ok (.iload_n 2, 1) := by decide +kernel
theorem dJ7_fill_53178_6 : decode cJ7_fill_53178 6 = .ok (.iload_n 3, 1) := by decide +kernel
theorem dJ7_fill_53178_7 : decode cJ7_fill_53178 7 = .ok (.if_icmp .ge 13, 3) := by decide +kernel
theorem dJ7_fill_53178_10 : decode cJ7_fill_53178 10 = .ok (.aload_n 0, 1) := by decide +kernel
theorem dJ7_fill_53178_11 : decode cJ7_fill_53178 11 = .ok (.iload_n 2, 1) := by decide +kernel
theorem dJ7_fill_53178_12 : decode cJ7_fill_53178 12 = .ok (.iload_n 1, 1) := by decide +kernel
theorem dJ7_fill_53178_13 : decode cJ7_fill_53178 13 = .ok (.iastore, 1) := by decide +kernel
theorem dJ7_fill_53178_14 : decode cJ7_fill_53178 14 = .ok (.iinc 2 1, 3) := by decide +kernel
theorem dJ7_fill_53178_17 : decode cJ7_fill_53178 17 = .ok (.goto (-12), 3) := by decide +kernel
theorem dJ7_fill_53178_20 : decode cJ7_fill_53178 20 = .ok (.return_, 1) := by decide +kernel
