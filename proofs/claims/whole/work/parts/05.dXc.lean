theorem dX5_init_0 : decode cX5_init 0 = .ok (.aload_n 0, 1) := by decide +kernel
theorem dX5_init_1 : decode cX5_init 1 = .ok (.invokespecial 1, 3) := by decide +kernel
theorem dX5_init_4 : decode cX5_init 4 = .ok (.aload_n 0, 1) := by decide +kernel
theorem dX5_init_5 : decode cX5_init 5 = .ok (.bipush 60, 2) := by decide +kernel
theorem dX5_init_7 : decode cX5_init 7 = .ok (.newarray .int, 2) := by decide +kernel
theorem dX5_init_9 : decode cX5_init 9 = .ok (.putfield 7, 3) := by decide +kernel
theorem dX5_init_12 : decode cX5_init 12 = .ok (.aload_n 0, 1) := by decide +kernel
theorem dX5_init_13 : decode cX5_init 13 = .ok (.bipush 15, 2) := by decide +kernel
theorem dX5_init_15 : decode cX5_init 15 = .ok (.newarray .boolean, 2) := by decide +kernel
theorem dX5_init_17 : decode cX5_init 17 = .ok (.putfield 13, 3) := by decide +kernel
theorem dX5_init_20 : decode cX5_init 20 = .ok (.aload_n 0, 1) := by decide +kernel
theorem dX5_init_21 : decode cX5_init 21 = .ok (.bipush 40, 2) := by decide +kernel
theorem dX5_init_23 : decode cX5_init 23 = .ok (.newarray .int, 2) := by decide +kernel
theorem dX5_init_25 : decode cX5_init 25 = .ok (.putfield 17, 3) := by decide +kernel
theorem dX5_init_28 : decode cX5_init 28 = .ok (.aload_n 0, 1) := by decide +kernel
theorem dX5_init_29 : decode cX5_init 29 = .ok (.bipush 40, 2) := by decide +kernel
theorem dX5_init_31 : decode cX5_init 31 = .ok (.newarray .int, 2) := by decide +kernel
theorem dX5_init_33 : decode cX5_init 33 = .ok (.putfield 20, 3) := by decide +kernel
theorem dX5_init_36 : decode cX5_init 36 = .ok (.aload_n 0, 1) := by decide +kernel
theorem dX5_init_37 : decode cX5_init 37 = .ok (.bipush 40, 2) := by decide +kernel
theorem dX5_init_39 : decode cX5_init 39 = .ok (.newarray .int, 2) := by decide +kernel
theorem dX5_init_41 : decode cX5_init 41 = .ok (.putfield 23, 3) := by decide +kernel
theorem dX5_init_44 : decode cX5_init 44 = .ok (.aload_n 0, 1) := by decide +kernel
theorem dX5_init_45 : decode cX5_init 45 = .ok (.bipush 40, 2) := by decide +kernel
theorem dX5_init_47 : decode cX5_init 47 = .ok (.newarray .int, 2) := by decide +kernel
theorem dX5_init_49 : decode cX5_init 49 = .ok (.putfield 26, 3) := by decide +kernel
theorem dX5_init_52 : decode cX5_init 52 = .ok (.aload_n 0, 1) := by decide +kernel
theorem dX5_init_53 : decode cX5_init 53 = .ok (.bipush 40, 2) := by decide +kernel
theorem dX5_init_55 : decode cX5_init 55 = .ok (.newarray .int, 2) := by decide +kernel
theorem dX5_init_57 : decode cX5_init 57 = .ok (.putfield 29, 3) := by decide +kernel
theorem dX5_init_60 : decode cX5_init 60 = .ok (.aload_n 0, 1) := by decide +kernel
theorem dX5_init_61 : decode cX5_init 61 = .ok (.bipush 6, 2) := by decide +kernel
theorem dX5_init_63 : decode cX5_init 63 = .ok (.newarray .int, 2) := by decide +kernel
theorem dX5_init_65 : decode cX5_init 65 = .ok (.putfield 32, 3) := by decide +kernel
theorem dX5_init_68 : decode cX5_init 68 = .ok (.aload_n 0, 1) := by decide +kernel
theorem dX5_init_69 : decode cX5_init 69 = .ok (.bipush 6, 2) := by decide +kernel
theorem dX5_init_71 : decode cX5_init 71 = .ok (.newarray .boolean, 2) := by decide +kernel
theorem dX5_init_73 : decode cX5_init 73 = .ok (.putfield 35, 3) := by decide +kernel
theorem dX5_init_76 : decode cX5_init 76 = .ok (.aload_n 0, 1) := by decide +kernel
theorem dX5_init_77 : decode cX5_init 77 = .ok (.iconst 4, 1) := by decide +kernel
theorem dX5_init_78 : decode cX5_init 78 = .ok (.newarray .int, 2) := by decide +kernel
theorem dX5_init_80 : decode cX5_init 80 = .ok (.putfield 38, 3) := by decide +kernel
theorem dX5_init_83 : decode cX5_init 83 = .ok (.aload_n 0, 1) := by decide +kernel
theorem dX5_init_84 : decode cX5_init 84 = .ok (.iconst 4, 1) := by decide +kernel
theorem dX5_init_85 : decode cX5_init 85 = .ok (.newarray .int, 2) := by decide +kernel
theorem dX5_init_87 : decode cX5_init 87 = .ok (.putfield 41, 3) := by decide +kernel
theorem dX5_init_90 : decode cX5_init 90 = .ok (.aload_n 0, 1) := by decide +kernel
theorem dX5_init_91 : decode cX5_init 91 = .ok (.sipush 160, 3) := by decide +kernel
theorem dX5_init_94 : decode cX5_init 94 = .ok (.newarray .int, 2) := by decide +kernel
theorem dX5_init_96 : decode cX5_init 96 = .ok (.putfield 44, 3) := by decide +kernel
theorem dX5_init_99 : decode cX5_init 99 = .ok (.aload_n 0, 1) := by decide +kernel
theorem dX5_init_100 : decode cX5_init 100 = .ok (.bipush 6, 2) := by decide +kernel
theorem dX5_init_102 : decode cX5_init 102 = .ok (.newarray .int, 2) := by decide +kernel
theorem dX5_init_104 : decode cX5_init 104 = .ok (.putfield 47, 3) := by decide +kernel
theorem dX5_init_107 : decode cX5_init 107 = .ok (.aload_n 0, 1) := by decide +kernel
theorem dX5_init_108 : decode cX5_init 108 = .ok (.bipush 6, 2) := by decide +kernel
theorem dX5_init_110 : decode cX5_init 110 = .ok (.newarray .boolean, 2) := by decide +kernel
theorem dX5_init_112 : decode cX5_init 112 = .ok (.putfield 50, 3) := by decide +kernel
theorem dX5_init_115 : decode cX5_init 115 = .ok (.aload_n 0, 1) := by decide +kernel
theorem dX5_init_116 : decode cX5_init 116 = .ok (.bipush 24, 2) := by decide +kernel
theorem dX5_init_118 : decode cX5_init 118 = .ok (.newarray .int, 2) := by decide +kernel
theorem dX5_init_120 : decode cX5_init 120 = .ok (.putfield 53, 3) := by decide +kernel
theorem dX5_init_123 : decode cX5_init 123 = .ok (.aload_n 0, 1) := by decide +kernel
theorem dX5_init_124 : decode cX5_init 124 = .ok (.bipush 24, 2) := by decide +kernel
theorem dX5_init_126 : decode cX5_init 126 = .ok (.newarray .int, 2) := by decide +kernel
theorem dX5_init_128 : decode cX5_init 128 = .ok (.putfield 56, 3) := by decide +kernel
theorem dX5_init_131 : decode cX5_init 131 = .ok (.aload_n 0, 1) := by decide +kernel
theorem dX5_init_132 : decode cX5_init 132 = .ok (.iconst (-1), 1) := by decide +kernel
theorem dX5_init_133 : decode cX5_init 133 = .ok (.putfield 59, 3) := by decide +kernel
theorem dX5_init_136 : decode cX5_init 136 = .ok (.aload_n 0, 1) := by decide +kernel
theorem dX5_init_137 : decode cX5_init 137 = .ok (.iconst (-1), 1) := by decide +kernel
theorem dX5_init_138 : decode cX5_init 138 = .ok (.putfield 63, 3) := by decide +kernel
theorem dX5_init_141 : decode cX5_init 141 = .ok (.iconst 0, 1) := by decide +kernel
theorem dX5_init_142 : decode cX5_init 142 = .ok (.istore_n 1, 1) := by decide +kernel
theorem dX5_init_143 : decode cX5_init 143 = .ok (.iload_n 1, 1) := by decide +kernel
theorem dX5_init_144 : decode cX5_init 144 = .ok (.iconst 4, 1) := by decide +kernel
theorem dX5_init_145 : decode cX5_init 145 = .ok (.if_icmp .ge 16, 3) := by decide +kernel
theorem dX5_init_148 : decode cX5_init 148 = .ok (.aload_n 0, 1) := by decide +kernel
theorem dX5_init_149 : decode cX5_init 149 = .ok (.getfield 41, 3) := by decide +kernel
theorem dX5_init_152 : decode cX5_init 152 = .ok (.iload_n 1, 1) := by decide +kernel
theorem dX5_init_153 : decode cX5_init 153 = .ok (.iconst (-1), 1) := by decide +kernel
theorem dX5_init_154 : decode cX5_init 154 = .ok (.iastore, 1) := by decide +kernel
theorem dX5_init_155 : decode cX5_init 155 = .ok (.iinc 1 1, 3) := by decide +kernel
theorem dX5_init_158 : decode cX5_init 158 = .ok (.goto (-15), 3) := by decide +kernel
theorem dX5_init_161 : decode cX5_init 161 = .ok (.return_, 1) := by decide +kernel
theorem dX5_thrown_0 : decode cX5_thrown 0 = .ok (.aload_n 0, 1) := by decide +kernel
theorem dX5_thrown_1 : decode cX5_thrown 1 = .ok (.getfield 66, 3) := by decide +kernel
theorem dX5_thrown_4 : decode cX5_thrown 4 = .ok (.ireturn, 1) := by decide +kernel
theorem dX5_within_0 : decode cX5_within 0 = .ok (.iload_n 0, 1) := by decide +kernel
theorem dX5_within_1 : decode cX5_within 1 = .ok (.ifCond .lt 12, 3) := by decide +kernel
theorem dX5_within_4 : decode cX5_within 4 = .ok (.iload_n 0, 1) := by decide +kernel
theorem dX5_within_5 : decode cX5_within 5 = .ok (.iload_n 1, 1) := by decide +kernel
theorem dX5_within_6 : decode cX5_within 6 = .ok (.if_icmp .gt 7, 3) := by decide +kernel
theorem dX5_within_9 : decode cX5_within 9 = .ok (.iconst 1, 1) := by decide +kernel
theorem dX5_within_10 : decode cX5_within 10 = .ok (.goto 4, 3) := by decide +kernel
theorem dX5_within_13 : decode cX5_within 13 = .ok (.iconst 0, 1) := by decide +kernel
theorem dX5_within_14 : decode cX5_within 14 = .ok (.ireturn, 1) := by decide +kernel
set_option maxRecDepth 20000 in
theorem ggX5_lead_X5_within : GoodIn wsX5_lead wsX5_within := goodIn_r _ [6] (by decide +kernel) (by decide +kernel)
set_option maxRecDepth 20000 in
theorem gX5_lead_X5_within : GoodIn wsX5_lead (va_wsS RX5 69 yX5_within wsX5_within) := goodIn_app (goodIn_of _ (by decide +kernel)) ggX5_lead_X5_within
theorem dX5_lead_0 : decode cX5_lead 0 = .ok (.aload_n 0, 1) := by decide +kernel
theorem dX5_lead_1 : decode cX5_lead 1 = .ok (.iconst 0, 1) := by decide +kernel
theorem dX5_lead_2 : decode cX5_lead 2 = .ok (.putfield 66, 3) := by decide +kernel
theorem dX5_lead_5 : decode cX5_lead 5 = .ok (.iload_n 1, 1) := by decide +kernel
theorem dX5_lead_6 : decode cX5_lead 6 = .ok (.iconst 2, 1) := by decide +kernel
theorem dX5_lead_7 : decode cX5_lead 7 = .ok (.invokestatic 69, 3) := by decide +kernel
theorem dX5_lead_10 : decode cX5_lead 10 = .ok (.ifCond .eq 31, 3) := by decide +kernel
theorem dX5_lead_13 : decode cX5_lead 13 = .ok (.iload_n 2, 1) := by decide +kernel
theorem dX5_lead_14 : decode cX5_lead 14 = .ok (.iconst 4, 1) := by decide +kernel
theorem dX5_lead_15 : decode cX5_lead 15 = .ok (.invokestatic 69, 3) := by decide +kernel
theorem dX5_lead_18 : decode cX5_lead 18 = .ok (.ifCond .eq 23, 3) := by decide +kernel
theorem dX5_lead_21 : decode cX5_lead 21 = .ok (.iload_n 3, 1) := by decide +kernel
theorem dX5_lead_22 : decode cX5_lead 22 = .ok (.iconst 3, 1) := by decide +kernel
theorem dX5_lead_23 : decode cX5_lead 23 = .ok (.invokestatic 69, 3) := by decide +kernel
theorem dX5_lead_26 : decode cX5_lead 26 = .ok (.ifCond .eq 15, 3) := by decide +kernel
theorem dX5_lead_29 : decode cX5_lead 29 = .ok (.iload 4, 2) := by decide +kernel
theorem dX5_lead_31 : decode cX5_lead 31 = .ok (.iconst (-1), 1) := by decide +kernel
theorem dX5_lead_32 : decode cX5_lead 32 = .ok (.if_icmp .lt 9, 3) := by decide +kernel
theorem dX5_lead_35 : decode cX5_lead 35 = .ok (.iload 4, 2) := by decide +kernel
theorem dX5_lead_37 : decode cX5_lead 37 = .ok (.iconst 4, 1) := by decide +kernel
theorem dX5_lead_38 : decode cX5_lead 38 = .ok (.if_icmp .le 5, 3) := by decide +kernel
theorem dX5_lead_41 : decode cX5_lead 41 = .ok (.iconst 0, 1) := by decide +kernel
theorem dX5_lead_42 : decode cX5_lead 42 = .ok (.ireturn, 1) := by decide +kernel
theorem dX5_lead_43 : decode cX5_lead 43 = .ok (.aload_n 0, 1) := by decide +kernel
theorem dX5_lead_44 : decode cX5_lead 44 = .ok (.getfield 7, 3) := by decide +kernel
theorem dX5_lead_47 : decode cX5_lead 47 = .ok (.bipush 20, 2) := by decide +kernel
theorem dX5_lead_49 : decode cX5_lead 49 = .ok (.iload_n 1, 1) := by decide +kernel
theorem dX5_lead_50 : decode cX5_lead 50 = .ok (.imul, 1) := by decide +kernel
theorem dX5_lead_51 : decode cX5_lead 51 = .ok (.iconst 4, 1) := by decide +kernel
theorem dX5_lead_52 : decode cX5_lead 52 = .ok (.iload_n 2, 1) := by decide +kernel
theorem dX5_lead_53 : decode cX5_lead 53 = .ok (.imul, 1) := by decide +kernel
theorem dX5_lead_54 : decode cX5_lead 54 = .ok (.iadd, 1) := by decide +kernel
theorem dX5_lead_55 : decode cX5_lead 55 = .ok (.iload_n 3, 1) := by decide +kernel
theorem dX5_lead_56 : decode cX5_lead 56 = .ok (.iadd, 1) := by decide +kernel
theorem dX5_lead_57 : decode cX5_lead 57 = .ok (.iload 4, 2) := by decide +kernel
theorem dX5_lead_59 : decode cX5_lead 59 = .ok (.iconst 1, 1) := by decide +kernel
theorem dX5_lead_60 : decode cX5_lead 60 = .ok (.iadd, 1) := by decide +kernel
theorem dX5_lead_61 : decode cX5_lead 61 = .ok (.iastore, 1) := by decide +kernel
theorem dX5_lead_62 : decode cX5_lead 62 = .ok (.iconst 1, 1) := by decide +kernel
theorem dX5_lead_63 : decode cX5_lead 63 = .ok (.ireturn, 1) := by decide +kernel
set_option maxRecDepth 20000 in
theorem ggX5_mark_X5_within : GoodIn wsX5_mark wsX5_within := goodIn_r _ [6] (by decide +kernel) (by decide +kernel)
set_option maxRecDepth 20000 in
theorem gX5_mark_X5_within : GoodIn wsX5_mark (va_wsS RX5 69 yX5_within wsX5_within) := goodIn_app (goodIn_of _ (by decide +kernel)) ggX5_mark_X5_within
theorem dX5_mark_0 : decode cX5_mark 0 = .ok (.aload_n 0, 1) := by decide +kernel
theorem dX5_mark_1 : decode cX5_mark 1 = .ok (.iconst 0, 1) := by decide +kernel
theorem dX5_mark_2 : decode cX5_mark 2 = .ok (.putfield 66, 3) := by decide +kernel
theorem dX5_mark_5 : decode cX5_mark 5 = .ok (.iload_n 1, 1) := by decide +kernel
theorem dX5_mark_6 : decode cX5_mark 6 = .ok (.iconst 2, 1) := by decide +kernel
theorem dX5_mark_7 : decode cX5_mark 7 = .ok (.invokestatic 69, 3) := by decide +kernel
theorem dX5_mark_10 : decode cX5_mark 10 = .ok (.ifCond .eq 11, 3) := by decide +kernel
theorem dX5_mark_13 : decode cX5_mark 13 = .ok (.iload_n 2, 1) := by decide +kernel
theorem dX5_mark_14 : decode cX5_mark 14 = .ok (.iconst 4, 1) := by decide +kernel
theorem dX5_mark_15 : decode cX5_mark 15 = .ok (.invokestatic 69, 3) := by decide +kernel
theorem dX5_mark_18 : decode cX5_mark 18 = .ok (.ifCond .ne 5, 3) := by decide +kernel
theorem dX5_mark_21 : decode cX5_mark 21 = .ok (.iconst 0, 1) := by decide +kernel
theorem dX5_mark_22 : decode cX5_mark 22 = .ok (.ireturn, 1) := by decide +kernel
theorem dX5_mark_23 : decode cX5_mark 23 = .ok (.aload_n 0, 1) := by decide +kernel
theorem dX5_mark_24 : decode cX5_mark 24 = .ok (.getfield 13, 3) := by decide +kernel
theorem dX5_mark_27 : decode cX5_mark 27 = .ok (.iconst 5, 1) := by decide +kernel
theorem dX5_mark_28 : decode cX5_mark 28 = .ok (.iload_n 1, 1) := by decide +kernel
theorem dX5_mark_29 : decode cX5_mark 29 = .ok (.imul, 1) := by decide +kernel
theorem dX5_mark_30 : decode cX5_mark 30 = .ok (.iload_n 2, 1) := by decide +kernel
theorem dX5_mark_31 : decode cX5_mark 31 = .ok (.iadd, 1) := by decide +kernel
theorem dX5_mark_32 : decode cX5_mark 32 = .ok (.iload_n 3, 1) := by decide +kernel
theorem dX5_mark_33 : decode cX5_mark 33 = .ok (.bastore, 1) := by decide +kernel
theorem dX5_mark_34 : decode cX5_mark 34 = .ok (.iconst 1, 1) := by decide +kernel
theorem dX5_mark_35 : decode cX5_mark 35 = .ok (.ireturn, 1) := by decide +kernel
theorem dX5_add_0 : decode cX5_add 0 = .ok (.aload_n 0, 1) := by decide +kernel
theorem dX5_add_1 : decode cX5_add 1 = .ok (.getfield 73, 3) := by decide +kernel
theorem dX5_add_4 : decode cX5_add 4 = .ok (.bipush 40, 2) := by decide +kernel
theorem dX5_add_6 : decode cX5_add 6 = .ok (.if_icmp .ne 5, 3) := by decide +kernel
theorem dX5_add_9 : decode cX5_add 9 = .ok (.iconst (-1), 1) := by decide +kernel
theorem dX5_add_10 : decode cX5_add 10 = .ok (.ireturn, 1) := by decide +kernel
theorem dX5_add_11 : decode cX5_add 11 = .ok (.aload_n 0, 1) := by decide +kernel
theorem dX5_add_12 : decode cX5_add 12 = .ok (.getfield 17, 3) := by decide +kernel
theorem dX5_add_15 : decode cX5_add 15 = .ok (.aload_n 0, 1) := by decide +kernel
theorem dX5_add_16 : decode cX5_add 16 = .ok (.getfield 73, 3) := by decide +kernel
theorem dX5_add_19 : decode cX5_add 19 = .ok (.iload_n 1, 1) := by decide +kernel
theorem dX5_add_20 : decode cX5_add 20 = .ok (.iastore, 1) := by decide +kernel
theorem dX5_add_21 : decode cX5_add 21 = .ok (.aload_n 0, 1) := by decide +kernel
theorem dX5_add_22 : decode cX5_add 22 = .ok (.getfield 20, 3) := by decide +kernel
theorem dX5_add_25 : decode cX5_add 25 = .ok (.aload_n 0, 1) := by decide +kernel
theorem dX5_add_26 : decode cX5_add 26 = .ok (.getfield 73, 3) := by decide +kernel
theorem dX5_add_29 : decode cX5_add 29 = .ok (.iload_n 2, 1) := by decide +kernel
theorem dX5_add_30 : decode cX5_add 30 = .ok (.iastore, 1) := by decide +kernel
theorem dX5_add_31 : decode cX5_add 31 = .ok (.aload_n 0, 1) := by decide +kernel
theorem dX5_add_32 : decode cX5_add 32 = .ok (.getfield 23, 3) := by decide +kernel
theorem dX5_add_35 : decode cX5_add 35 = .ok (.aload_n 0, 1) := by decide +kernel
theorem dX5_add_36 : decode cX5_add 36 = .ok (.getfield 73, 3) := by decide +kernel
theorem dX5_add_39 : decode cX5_add 39 = .ok (.iload_n 3, 1) := by decide +kernel
theorem dX5_add_40 : decode cX5_add 40 = .ok (.iastore, 1) := by decide +kernel
theorem dX5_add_41 : decode cX5_add 41 = .ok (.aload_n 0, 1) := by decide +kernel
theorem dX5_add_42 : decode cX5_add 42 = .ok (.aload_n 0, 1) := by decide +kernel
theorem dX5_add_43 : decode cX5_add 43 = .ok (.getfield 73, 3) := by decide +kernel
theorem dX5_add_46 : decode cX5_add 46 = .ok (.iconst 1, 1) := by decide +kernel
theorem dX5_add_47 : decode cX5_add 47 = .ok (.iadd, 1) := by decide +kernel
theorem dX5_add_48 : decode cX5_add 48 = .ok (.putfield 73, 3) := by decide +kernel
theorem dX5_add_51 : decode cX5_add 51 = .ok (.aload_n 0, 1) := by decide +kernel
theorem dX5_add_52 : decode cX5_add 52 = .ok (.getfield 73, 3) := by decide +kernel
theorem dX5_add_55 : decode cX5_add 55 = .ok (.iconst 1, 1) := by decide +kernel
theorem dX5_add_56 : decode cX5_add 56 = .ok (.isub, 1) := by decide +kernel
theorem dX5_add_57 : decode cX5_add 57 = .ok (.ireturn, 1) := by decide +kernel
set_option maxRecDepth 20000 in
theorem ggX5_make_X5_within : GoodIn wsX5_make wsX5_within := goodIn_r _ [5] (by decide +kernel) (by decide +kernel)
set_option maxRecDepth 20000 in
theorem gX5_make_X5_within : GoodIn wsX5_make (va_wsS RX5 69 yX5_within wsX5_within) := goodIn_app (goodIn_of _ (by decide +kernel)) ggX5_make_X5_within
set_option maxRecDepth 20000 in
theorem ggX5_make_X5_add : GoodIn wsX5_make wsX5_add := goodIn_r _ [9, 10, 11, 12, 13, 14, 15, 16, 17, 18, 19, 20, 21, 22, 23, 24, 25, 26, 27, 28, 29, 30, 31, 32, 33, 34, 35, 36, 37, 38] (by decide +kernel) (by decide +kernel)
set_option maxRecDepth 20000 in
theorem gX5_make_X5_add : GoodIn wsX5_make (wsV RX5 76 RX5 yX5_add wsX5_add) := goodIn_app (goodIn_of _ (by decide +kernel)) ggX5_make_X5_add
theorem dX5_make_0 : decode cX5_make 0 = .ok (.aload_n 0, 1) := by decide +kernel
theorem dX5_make_1 : decode cX5_make 1 = .ok (.iconst 0, 1) := by decide +kernel
theorem dX5_make_2 : decode cX5_make 2 = .ok (.putfield 66, 3) := by decide +kernel
theorem dX5_make_5 : decode cX5_make 5 = .ok (.iload_n 1, 1) := by decide +kernel
theorem dX5_make_6 : decode cX5_make 6 = .ok (.iconst 3, 1) := by decide +kernel
theorem dX5_make_7 : decode cX5_make 7 = .ok (.invokestatic 69, 3) := by decide +kernel
theorem dX5_make_10 : decode cX5_make 10 = .ok (.ifCond .eq 21, 3) := by decide +kernel
theorem dX5_make_13 : decode cX5_make 13 = .ok (.iload_n 2, 1) := by decide +kernel
theorem dX5_make_14 : decode cX5_make 14 = .ok (.iconst 2, 1) := by decide +kernel
theorem dX5_make_15 : decode cX5_make 15 = .ok (.invokestatic 69, 3) := by decide +kernel
theorem dX5_make_18 : decode cX5_make 18 = .ok (.ifCond .eq 13, 3) := by decide +kernel
theorem dX5_make_21 : decode cX5_make 21 = .ok (.aload_n 0, 1) := by decide +kernel
theorem dX5_make_22 : decode cX5_make 22 = .ok (.iconst 0, 1) := by decide +kernel
theorem dX5_make_23 : decode cX5_make 23 = .ok (.iload_n 1, 1) := by decide +kernel
theorem dX5_make_24 : decode cX5_make 24 = .ok (.iload_n 2, 1) := by decide +kernel
theorem dX5_make_25 : decode cX5_make 25 = .ok (.invokevirtual 76, 3) := by decide +kernel
theorem dX5_make_28 : decode cX5_make 28 = .ok (.goto 4, 3) := by decide +kernel
theorem dX5_make_31 : decode cX5_make 31 = .ok (.iconst (-1), 1) := by decide +kernel
theorem dX5_make_32 : decode cX5_make 32 = .ok (.ireturn, 1) := by decide +kernel
set_option maxRecDepth 20000 in
theorem ggX5_call_X5_within : GoodIn wsX5_call wsX5_within := goodIn_r _ [5] (by decide +kernel) (by decide +kernel)
set_option maxRecDepth 20000 in
theorem gX5_call_X5_within : GoodIn wsX5_call (va_wsS RX5 69 yX5_within wsX5_within) := goodIn_app (goodIn_of _ (by decide +kernel)) ggX5_call_X5_within
set_option maxRecDepth 20000 in
theorem ggX5_call_X5_add : GoodIn wsX5_call wsX5_add := goodIn_r _ [9, 10, 11, 12, 13, 14, 15, 16, 17, 18, 19, 20, 21, 22, 23, 24, 25, 26, 27, 28, 29, 30, 31, 32, 33, 34, 35, 36, 37, 38] (by decide +kernel) (by decide +kernel)
set_option maxRecDepth 20000 in
theorem gX5_call_X5_add : GoodIn wsX5_call (wsV RX5 76 RX5 yX5_add wsX5_add) := goodIn_app (goodIn_of _ (by decide +kernel)) ggX5_call_X5_add
theorem dX5_call_0 : decode cX5_call 0 = .ok (.aload_n 0, 1) := by decide +kernel
theorem dX5_call_1 : decode cX5_call 1 = .ok (.iconst 0, 1) := by decide +kernel
theorem dX5_call_2 : decode cX5_call 2 = .ok (.putfield 66, 3) := by decide +kernel
theorem dX5_call_5 : decode cX5_call 5 = .ok (.iload_n 1, 1) := by decide +kernel
theorem dX5_call_6 : decode cX5_call 6 = .ok (.iconst 3, 1) := by decide +kernel
theorem dX5_call_7 : decode cX5_call 7 = .ok (.invokestatic 69, 3) := by decide +kernel
theorem dX5_call_10 : decode cX5_call 10 = .ok (.ifCond .eq 21, 3) := by decide +kernel
theorem dX5_call_13 : decode cX5_call 13 = .ok (.iload_n 2, 1) := by decide +kernel
theorem dX5_call_14 : decode cX5_call 14 = .ok (.iconst 3, 1) := by decide +kernel
theorem dX5_call_15 : decode cX5_call 15 = .ok (.invokestatic 69, 3) := by decide +kernel
theorem dX5_call_18 : decode cX5_call 18 = .ok (.ifCond .eq 13, 3) := by decide +kernel
theorem dX5_call_21 : decode cX5_call 21 = .ok (.aload_n 0, 1) := by decide +kernel
theorem dX5_call_22 : decode cX5_call 22 = .ok (.iconst 1, 1) := by decide +kernel
theorem dX5_call_23 : decode cX5_call 23 = .ok (.iload_n 1, 1) := by decide +kernel
theorem dX5_call_24 : decode cX5_call 24 = .ok (.iload_n 2, 1) := by decide +kernel
theorem dX5_call_25 : decode cX5_call 25 = .ok (.invokevirtual 76, 3) := by decide +kernel
theorem dX5_call_28 : decode cX5_call 28 = .ok (.goto 4, 3) := by decide +kernel
theorem dX5_call_31 : decode cX5_call 31 = .ok (.iconst (-1), 1) := by decide +kernel
theorem dX5_call_32 : decode cX5_call 32 = .ok (.ireturn, 1) := by decide +kernel
set_option maxRecDepth 20000 in
theorem ggX5_move_X5_within : GoodIn wsX5_move wsX5_within := goodIn_r _ [5] (by decide +kernel) (by decide +kernel)
set_option maxRecDepth 20000 in
theorem gX5_move_X5_within : GoodIn wsX5_move (va_wsS RX5 69 yX5_within wsX5_within) := goodIn_app (goodIn_of _ (by decide +kernel)) ggX5_move_X5_within
set_option maxRecDepth 20000 in
theorem ggX5_move_X5_add : GoodIn wsX5_move wsX5_add := goodIn_r _ [9, 10, 11, 12, 13, 14, 15, 16, 17, 18, 19, 20, 21, 22, 23, 24, 25, 26, 27, 28, 29, 30, 31, 32, 33, 34, 35, 36, 37, 38] (by decide +kernel) (by decide +kernel)
set_option maxRecDepth 20000 in
theorem gX5_move_X5_add : GoodIn wsX5_move (wsV RX5 76 RX5 yX5_add wsX5_add) := goodIn_app (goodIn_of _ (by decide +kernel)) ggX5_move_X5_add
theorem dX5_move_0 : decode cX5_move 0 = .ok (.aload_n 0, 1) := by decide +kernel
theorem dX5_move_1 : decode cX5_move 1 = .ok (.iconst 0, 1) := by decide +kernel
theorem dX5_move_2 : decode cX5_move 2 = .ok (.putfield 66, 3) := by decide +kernel
theorem dX5_move_5 : decode cX5_move 5 = .ok (.iload_n 1, 1) := by decide +kernel
theorem dX5_move_6 : decode cX5_move 6 = .ok (.iconst 3, 1) := by decide +kernel
theorem dX5_move_7 : decode cX5_move 7 = .ok (.invokestatic 69, 3) := by decide +kernel
theorem dX5_move_10 : decode cX5_move 10 = .ok (.ifCond .eq 21, 3) := by decide +kernel
theorem dX5_move_13 : decode cX5_move 13 = .ok (.iload_n 2, 1) := by decide +kernel
theorem dX5_move_14 : decode cX5_move 14 = .ok (.iconst 3, 1) := by decide +kernel
theorem dX5_move_15 : decode cX5_move 15 = .ok (.invokestatic 69, 3) := by decide +kernel
theorem dX5_move_18 : decode cX5_move 18 = .ok (.ifCond .eq 13, 3) := by decide +kernel
theorem dX5_move_21 : decode cX5_move 21 = .ok (.aload_n 0, 1) := by decide +kernel
theorem dX5_move_22 : decode cX5_move 22 = .ok (.iconst 2, 1) := by decide +kernel
theorem dX5_move_23 : decode cX5_move 23 = .ok (.iload_n 1, 1) := by decide +kernel
theorem dX5_move_24 : decode cX5_move 24 = .ok (.iload_n 2, 1) := by decide +kernel
theorem dX5_move_25 : decode cX5_move 25 = .ok (.invokevirtual 76, 3) := by decide +kernel
theorem dX5_move_28 : decode cX5_move 28 = .ok (.goto 4, 3) := by decide +kernel
theorem dX5_move_31 : decode cX5_move 31 = .ok (.iconst (-1), 1) := by decide +kernel
theorem dX5_move_32 : decode cX5_move 32 = .ok (.ireturn, 1) := by decide +kernel
set_option maxRecDepth 20000 in
theorem ggX5_drop_X5_within : GoodIn wsX5_drop wsX5_within := goodIn_r _ [5] (by decide +kernel) (by decide +kernel)
set_option maxRecDepth 20000 in
theorem gX5_drop_X5_within : GoodIn wsX5_drop (va_wsS RX5 69 yX5_within wsX5_within) := goodIn_app (goodIn_of _ (by decide +kernel)) ggX5_drop_X5_within
set_option maxRecDepth 20000 in
theorem ggX5_drop_X5_add : GoodIn wsX5_drop wsX5_add := goodIn_r _ [9, 10, 11, 12, 13, 14, 15, 16, 17, 18, 19, 20, 21, 22, 23, 24, 25, 26, 27, 28, 29, 30, 31, 32, 33, 34, 35, 36, 37, 38] (by decide +kernel) (by decide +kernel)
set_option maxRecDepth 20000 in
theorem gX5_drop_X5_add : GoodIn wsX5_drop (wsV RX5 76 RX5 yX5_add wsX5_add) := goodIn_app (goodIn_of _ (by decide +kernel)) ggX5_drop_X5_add
theorem dX5_drop_0 : decode cX5_drop 0 = .ok (.aload_n 0, 1) := by decide +kernel
theorem dX5_drop_1 : decode cX5_drop 1 = .ok (.iconst 0, 1) := by decide +kernel
theorem dX5_drop_2 : decode cX5_drop 2 = .ok (.putfield 66, 3) := by decide +kernel
theorem dX5_drop_5 : decode cX5_drop 5 = .ok (.iload_n 1, 1) := by decide +kernel
theorem dX5_drop_6 : decode cX5_drop 6 = .ok (.iconst 3, 1) := by decide +kernel
theorem dX5_drop_7 : decode cX5_drop 7 = .ok (.invokestatic 69, 3) := by decide +kernel
theorem dX5_drop_10 : decode cX5_drop 10 = .ok (.ifCond .eq 13, 3) := by decide +kernel
theorem dX5_drop_13 : decode cX5_drop 13 = .ok (.aload_n 0, 1) := by decide +kernel
theorem dX5_drop_14 : decode cX5_drop 14 = .ok (.iconst 3, 1) := by decide +kernel
theorem dX5_drop_15 : decode cX5_drop 15 = .ok (.iload_n 1, 1) := by decide +kernel
theorem dX5_drop_16 : decode cX5_drop 16 = .ok (.iconst 0, 1) := by decide +kernel
theorem dX5_drop_17 : decode cX5_drop 17 = .ok (.invokevirtual 76, 3) := by decide +kernel
theorem dX5_drop_20 : decode cX5_drop 20 = .ok (.goto 4, 3) := by decide +kernel
theorem dX5_drop_23 : decode cX5_drop 23 = .ok (.iconst (-1), 1) := by decide +kernel
theorem dX5_drop_24 : decode cX5_drop 24 = .ok (.ireturn, 1) := by decide +kernel
set_option maxRecDepth 20000 in
theorem ggX5_begin_X5_add : GoodIn wsX5_begin wsX5_add := goodIn_r _ [8, 9, 10, 11, 12, 13, 14, 15, 16, 17, 18, 19, 20, 21, 22, 23, 24, 25, 26, 27, 28, 29, 30, 31, 32, 33, 34, 35, 36, 37] (by decide +kernel) (by decide +kernel)
set_option maxRecDepth 20000 in
theorem gX5_begin_X5_add : GoodIn wsX5_begin (wsV RX5 76 RX5 yX5_add wsX5_add) := goodIn_app (goodIn_of _ (by decide +kernel)) ggX5_begin_X5_add
theorem dX5_begin_0 : decode cX5_begin 0 = .ok (.aload_n 0, 1) := by decide +kernel
theorem dX5_begin_1 : decode cX5_begin 1 = .ok (.getfield 80, 3) := by decide +kernel
theorem dX5_begin_4 : decode cX5_begin 4 = .ok (.bipush 6, 2) := by decide +kernel
theorem dX5_begin_6 : decode cX5_begin 6 = .ok (.if_icmp .ne 5, 3) := by decide +kernel
theorem dX5_begin_9 : decode cX5_begin 9 = .ok (.iconst (-1), 1) := by decide +kernel
theorem dX5_begin_10 : decode cX5_begin 10 = .ok (.ireturn, 1) := by decide +kernel
theorem dX5_begin_11 : decode cX5_begin 11 = .ok (.aload_n 0, 1) := by decide +kernel
theorem dX5_begin_12 : decode cX5_begin 12 = .ok (.iload_n 1, 1) := by decide +kernel
theorem dX5_begin_13 : decode cX5_begin 13 = .ok (.iconst 0, 1) := by decide +kernel
theorem dX5_begin_14 : decode cX5_begin 14 = .ok (.iconst 0, 1) := by decide +kernel
theorem dX5_begin_15 : decode cX5_begin 15 = .ok (.invokevirtual 76, 3) := by decide +kernel
theorem dX5_begin_18 : decode cX5_begin 18 = .ok (.istore_n 2, 1) := by decide +kernel
theorem dX5_begin_19 : decode cX5_begin 19 = .ok (.iload_n 2, 1) := by decide +kernel
theorem dX5_begin_20 : decode cX5_begin 20 = .ok (.ifCond .lt 33, 3) := by decide +kernel
theorem dX5_begin_23 : decode cX5_begin 23 = .ok (.aload_n 0, 1) := by decide +kernel
theorem dX5_begin_24 : decode cX5_begin 24 = .ok (.getfield 32, 3) := by decide +kernel
theorem dX5_begin_27 : decode cX5_begin 27 = .ok (.aload_n 0, 1) := by decide +kernel
theorem dX5_begin_28 : decode cX5_begin 28 = .ok (.getfield 80, 3) := by decide +kernel
theorem dX5_begin_31 : decode cX5_begin 31 = .ok (.iload_n 2, 1) := by decide +kernel
theorem dX5_begin_32 : decode cX5_begin 32 = .ok (.iastore, 1) := by decide +kernel
theorem dX5_begin_33 : decode cX5_begin 33 = .ok (.aload_n 0, 1) := by decide +kernel
theorem dX5_begin_34 : decode cX5_begin 34 = .ok (.getfield 35, 3) := by decide +kernel
theorem dX5_begin_37 : decode cX5_begin 37 = .ok (.aload_n 0, 1) := by decide +kernel
theorem dX5_begin_38 : decode cX5_begin 38 = .ok (.getfield 80, 3) := by decide +kernel
theorem dX5_begin_41 : decode cX5_begin 41 = .ok (.iconst 0, 1) := by decide +kernel
theorem dX5_begin_42 : decode cX5_begin 42 = .ok (.bastore, 1) := by decide +kernel
theorem dX5_begin_43 : decode cX5_begin 43 = .ok (.aload_n 0, 1) := by decide +kernel
theorem dX5_begin_44 : decode cX5_begin 44 = .ok (.aload_n 0, 1) := by decide +kernel
theorem dX5_begin_45 : decode cX5_begin 45 = .ok (.getfield 80, 3) := by decide +kernel
theorem dX5_begin_48 : decode cX5_begin 48 = .ok (.iconst 1, 1) := by decide +kernel
theorem dX5_begin_49 : decode cX5_begin 49 = .ok (.iadd, 1) := by decide +kernel
theorem dX5_begin_50 : decode cX5_begin 50 = .ok (.putfield 80, 3) := by decide +kernel
theorem dX5_begin_53 : decode cX5_begin 53 = .ok (.iload_n 2, 1) := by decide +kernel
theorem dX5_begin_54 : decode cX5_begin 54 = .ok (.ireturn, 1) := by decide +kernel
set_option maxRecDepth 20000 in
theorem ggX5_choose_X5_begin : GoodIn wsX5_choose wsX5_begin := goodIn_r _ [6, 7, 8, 9, 10, 11, 12, 5, 13, 14, 15, 16, 17, 18, 19, 20, 21, 22, 23, 24, 25, 26, 27, 28, 29, 30, 31, 32, 33, 34, 35, 36, 37, 38, 39, 40, 41, 42] (by decide +kernel) (by decide +kernel)
set_option maxRecDepth 20000 in
theorem gX5_choose_X5_begin : GoodIn wsX5_choose (wsV RX5 83 RX5 yX5_begin wsX5_begin) := goodIn_app (goodIn_of _ (by decide +kernel)) ggX5_choose_X5_begin
theorem dX5_choose_0 : decode cX5_choose 0 = .ok (.aload_n 0, 1) := by decide +kernel
theorem dX5_choose_1 : decode cX5_choose 1 = .ok (.iconst 0, 1) := by decide +kernel
theorem dX5_choose_2 : decode cX5_choose 2 = .ok (.putfield 66, 3) := by decide +kernel
theorem dX5_choose_5 : decode cX5_choose 5 = .ok (.aload_n 0, 1) := by decide +kernel
theorem dX5_choose_6 : decode cX5_choose 6 = .ok (.iconst 4, 1) := by decide +kernel
theorem dX5_choose_7 : decode cX5_choose 7 = .ok (.invokevirtual 83, 3) := by decide +kernel
theorem dX5_choose_10 : decode cX5_choose 10 = .ok (.ireturn, 1) := by decide +kernel
set_option maxRecDepth 20000 in
theorem ggX5_repeat_X5_begin : GoodIn wsX5_repeat wsX5_begin := goodIn_r _ [6, 7, 8, 9, 10, 11, 12, 5, 13, 14, 15, 16, 17, 18, 19, 20, 21, 22, 23, 24, 25, 26, 27, 28, 29, 30, 31, 32, 33, 34, 35, 36, 37, 38, 39, 40, 41, 42] (by decide +kernel) (by decide +kernel)
set_option maxRecDepth 20000 in
theorem gX5_repeat_X5_begin : GoodIn wsX5_repeat (wsV RX5 83 RX5 yX5_begin wsX5_begin) := goodIn_app (goodIn_of _ (by decide +kernel)) ggX5_repeat_X5_begin
theorem dX5_repeat_0 : decode cX5_repeat 0 = .ok (.aload_n 0, 1) := by decide +kernel
theorem dX5_repeat_1 : decode cX5_repeat 1 = .ok (.iconst 0, 1) := by decide +kernel
theorem dX5_repeat_2 : decode cX5_repeat 2 = .ok (.putfield 66, 3) := by decide +kernel
theorem dX5_repeat_5 : decode cX5_repeat 5 = .ok (.aload_n 0, 1) := by decide +kernel
theorem dX5_repeat_6 : decode cX5_repeat 6 = .ok (.iconst 5, 1) := by decide +kernel
theorem dX5_repeat_7 : decode cX5_repeat 7 = .ok (.invokevirtual 83, 3) := by decide +kernel
theorem dX5_repeat_10 : decode cX5_repeat 10 = .ok (.ireturn, 1) := by decide +kernel
theorem dX5_otherwise_0 : decode cX5_otherwise 0 = .ok (.aload_n 0, 1) := by decide +kernel
theorem dX5_otherwise_1 : decode cX5_otherwise 1 = .ok (.iconst 0, 1) := by decide +kernel
theorem dX5_otherwise_2 : decode cX5_otherwise 2 = .ok (.putfield 66, 3) := by decide +kernel
theorem dX5_otherwise_5 : decode cX5_otherwise 5 = .ok (.aload_n 0, 1) := by decide +kernel
theorem dX5_otherwise_6 : decode cX5_otherwise 6 = .ok (.getfield 80, 3) := by decide +kernel
theorem dX5_otherwise_9 : decode cX5_otherwise 9 = .ok (.ifCond .eq 37, 3) := by decide +kernel
theorem dX5_otherwise_12 : decode cX5_otherwise 12 = .ok (.aload_n 0, 1) := by decide +kernel
theorem dX5_otherwise_13 : decode cX5_otherwise 13 = .ok (.getfield 17, 3) := by decide +kernel
theorem dX5_otherwise_16 : decode cX5_otherwise 16 = .ok (.aload_n 0, 1) := by decide +kernel
theorem dX5_otherwise_17 : decode cX5_otherwise 17 = .ok (.getfield 32, 3) := by decide +kernel
theorem dX5_otherwise_20 : decode cX5_otherwise 20 = .ok (.aload_n 0, 1) := by decide +kernel
theorem dX5_otherwise_21 : decode cX5_otherwise 21 = .ok (.getfield 80, 3) := by decide +kernel
theorem dX5_otherwise_24 : decode cX5_otherwise 24 = .ok (.iconst 1, 1) := by decide +kernel
theorem dX5_otherwise_25 : decode cX5_otherwise 25 = .ok (.isub, 1) := by decide +kernel
theorem dX5_otherwise_26 : decode cX5_otherwise 26 = .ok (.iaload, 1) := by decide +kernel
theorem dX5_otherwise_27 : decode cX5_otherwise 27 = .ok (.iaload, 1) := by decide +kernel
theorem dX5_otherwise_28 : decode cX5_otherwise 28 = .ok (.iconst 4, 1) := by decide +kernel
theorem dX5_otherwise_29 : decode cX5_otherwise 29 = .ok (.if_icmp .ne 17, 3) := by decide +kernel
theorem dX5_otherwise_32 : decode cX5_otherwise 32 = .ok (.aload_n 0, 1) := by decide +kernel
theorem dX5_otherwise_33 : decode cX5_otherwise 33 = .ok (.getfield 35, 3) := by decide +kernel
theorem dX5_otherwise_36 : decode cX5_otherwise 36 = .ok (.aload_n 0, 1) := by decide +kernel
theorem dX5_otherwise_37 : decode cX5_otherwise 37 = .ok (.getfield 80, 3) := by decide +kernel
theorem dX5_otherwise_40 : decode cX5_otherwise 40 = .ok (.iconst 1, 1) := by decide +kernel
theorem dX5_otherwise_41 : decode cX5_otherwise 41 = .ok (.isub, 1) := by decide +kernel
theorem dX5_otherwise_42 : decode cX5_otherwise 42 = .ok (.baload, 1) := by decide +kernel
theorem dX5_otherwise_43 : decode cX5_otherwise 43 = .ok (.ifCond .eq 5, 3) := by decide +kernel
theorem dX5_otherwise_46 : decode cX5_otherwise 46 = .ok (.iconst 0, 1) := by decide +kernel
theorem dX5_otherwise_47 : decode cX5_otherwise 47 = .ok (.ireturn, 1) := by decide +kernel
theorem dX5_otherwise_48 : decode cX5_otherwise 48 = .ok (.aload_n 0, 1) := by decide +kernel
theorem dX5_otherwise_49 : decode cX5_otherwise 49 = .ok (.getfield 35, 3) := by decide +kernel
theorem dX5_otherwise_52 : decode cX5_otherwise 52 = .ok (.aload_n 0, 1) := by decide +kernel
theorem dX5_otherwise_53 : decode cX5_otherwise 53 = .ok (.getfield 80, 3) := by decide +kernel
theorem dX5_otherwise_56 : decode cX5_otherwise 56 = .ok (.iconst 1, 1) := by decide +kernel
theorem dX5_otherwise_57 : decode cX5_otherwise 57 = .ok (.isub, 1) := by decide +kernel
theorem dX5_otherwise_58 : decode cX5_otherwise 58 = .ok (.iconst 1, 1) := by decide +kernel
theorem dX5_otherwise_59 : decode cX5_otherwise 59 = .ok (.bastore, 1) := by decide +kernel
theorem dX5_otherwise_60 : decode cX5_otherwise 60 = .ok (.aload_n 0, 1) := by decide +kernel
theorem dX5_otherwise_61 : decode cX5_otherwise 61 = .ok (.getfield 26, 3) := by decide +kernel
theorem dX5_otherwise_64 : decode cX5_otherwise 64 = .ok (.aload_n 0, 1) := by decide +kernel
theorem dX5_otherwise_65 : decode cX5_otherwise 65 = .ok (.getfield 32, 3) := by decide +kernel
theorem dX5_otherwise_68 : decode cX5_otherwise 68 = .ok (.aload_n 0, 1) := by decide +kernel
theorem dX5_otherwise_69 : decode cX5_otherwise 69 = .ok (.getfield 80, 3) := by decide +kernel
theorem dX5_otherwise_72 : decode cX5_otherwise 72 = .ok (.iconst 1, 1) := by decide +kernel
theorem dX5_otherwise_73 : decode cX5_otherwise 73 = .ok (.isub, 1) := by decide +kernel
theorem dX5_otherwise_74 : decode cX5_otherwise 74 = .ok (.iaload, 1) := by decide +kernel
theorem dX5_otherwise_75 : decode cX5_otherwise 75 = .ok (.aload_n 0, 1) := by decide +kernel
theorem dX5_otherwise_76 : decode cX5_otherwise 76 = .ok (.getfield 73, 3) := by decide +kernel
theorem dX5_otherwise_79 : decode cX5_otherwise 79 = .ok (.iastore, 1) := by decide +kernel
theorem dX5_otherwise_80 : decode cX5_otherwise 80 = .ok (.iconst 1, 1) := by decide +kernel
theorem dX5_otherwise_81 : decode cX5_otherwise 81 = .ok (.ireturn, 1) := by decide +kernel
theorem dX5_end_0 : decode cX5_end 0 = .ok (.aload_n 0, 1) := by decide +kernel
theorem dX5_end_1 : decode cX5_end 1 = .ok (.iconst 0, 1) := by decide +kernel
theorem dX5_end_2 : decode cX5_end 2 = .ok (.putfield 66, 3) := by decide +kernel
theorem dX5_end_5 : decode cX5_end 5 = .ok (.aload_n 0, 1) := by decide +kernel
theorem dX5_end_6 : decode cX5_end 6 = .ok (.getfield 80, 3) := by decide +kernel
theorem dX5_end_9 : decode cX5_end 9 = .ok (.ifCond .ne 5, 3) := by decide +kernel
theorem dX5_end_12 : decode cX5_end 12 = .ok (.iconst 0, 1) := by decide +kernel
theorem dX5_end_13 : decode cX5_end 13 = .ok (.ireturn, 1) := by decide +kernel
theorem dX5_end_14 : decode cX5_end 14 = .ok (.aload_n 0, 1) := by decide +kernel
theorem dX5_end_15 : decode cX5_end 15 = .ok (.aload_n 0, 1) := by decide +kernel
theorem dX5_end_16 : decode cX5_end 16 = .ok (.getfield 80, 3) := by decide +kernel
theorem dX5_end_19 : decode cX5_end 19 = .ok (.iconst 1, 1) := by decide +kernel
theorem dX5_end_20 : decode cX5_end 20 = .ok (.isub, 1) := by decide +kernel
theorem dX5_end_21 : decode cX5_end 21 = .ok (.putfield 80, 3) := by decide +kernel
theorem dX5_end_24 : decode cX5_end 24 = .ok (.aload_n 0, 1) := by decide +kernel
theorem dX5_end_25 : decode cX5_end 25 = .ok (.getfield 32, 3) := by decide +kernel
theorem dX5_end_28 : decode cX5_end 28 = .ok (.aload_n 0, 1) := by decide +kernel
theorem dX5_end_29 : decode cX5_end 29 = .ok (.getfield 80, 3) := by decide +kernel
theorem dX5_end_32 : decode cX5_end 32 = .ok (.iaload, 1) := by decide +kernel
theorem dX5_end_33 : decode cX5_end 33 = .ok (.istore_n 1, 1) := by decide +kernel
theorem dX5_end_34 : decode cX5_end 34 = .ok (.aload_n 0, 1) := by decide +kernel
theorem dX5_end_35 : decode cX5_end 35 = .ok (.getfield 35, 3) := by decide +kernel
theorem dX5_end_38 : decode cX5_end 38 = .ok (.aload_n 0, 1) := by decide +kernel
theorem dX5_end_39 : decode cX5_end 39 = .ok (.getfield 80, 3) := by decide +kernel
theorem dX5_end_42 : decode cX5_end 42 = .ok (.baload, 1) := by decide +kernel
theorem dX5_end_43 : decode cX5_end 43 = .ok (.ifCond .ne 13, 3) := by decide +kernel
theorem dX5_end_46 : decode cX5_end 46 = .ok (.aload_n 0, 1) := by decide +kernel
theorem dX5_end_47 : decode cX5_end 47 = .ok (.getfield 26, 3) := by decide +kernel
theorem dX5_end_50 : decode cX5_end 50 = .ok (.iload_n 1, 1) := by decide +kernel
theorem dX5_end_51 : decode cX5_end 51 = .ok (.aload_n 0, 1) := by decide +kernel
theorem dX5_end_52 : decode cX5_end 52 = .ok (.getfield 73, 3) := by decide +kernel
theorem dX5_end_55 : decode cX5_end 55 = .ok (.iastore, 1) := by decide +kernel
theorem dX5_end_56 : decode cX5_end 56 = .ok (.aload_n 0, 1) := by decide +kernel
theorem dX5_end_57 : decode cX5_end 57 = .ok (.getfield 29, 3) := by decide +kernel
theorem dX5_end_60 : decode cX5_end 60 = .ok (.iload_n 1, 1) := by decide +kernel
theorem dX5_end_61 : decode cX5_end 61 = .ok (.aload_n 0, 1) := by decide +kernel
theorem dX5_end_62 : decode cX5_end 62 = .ok (.getfield 73, 3) := by decide +kernel
theorem dX5_end_65 : decode cX5_end 65 = .ok (.iastore, 1) := by decide +kernel
theorem dX5_end_66 : decode cX5_end 66 = .ok (.iconst 1, 1) := by decide +kernel
theorem dX5_end_67 : decode cX5_end 67 = .ok (.ireturn, 1) := by decide +kernel
theorem dX5_clear_0 : decode cX5_clear 0 = .ok (.aload_n 0, 1) := by decide +kernel
theorem dX5_clear_1 : decode cX5_clear 1 = .ok (.iconst 0, 1) := by decide +kernel
theorem dX5_clear_2 : decode cX5_clear 2 = .ok (.putfield 66, 3) := by decide +kernel
theorem dX5_clear_5 : decode cX5_clear 5 = .ok (.aload_n 0, 1) := by decide +kernel
theorem dX5_clear_6 : decode cX5_clear 6 = .ok (.iconst 0, 1) := by decide +kernel
theorem dX5_clear_7 : decode cX5_clear 7 = .ok (.putfield 73, 3) := by decide +kernel
theorem dX5_clear_10 : decode cX5_clear 10 = .ok (.aload_n 0, 1) := by decide +kernel
theorem dX5_clear_11 : decode cX5_clear 11 = .ok (.iconst 0, 1) := by decide +kernel
theorem dX5_clear_12 : decode cX5_clear 12 = .ok (.putfield 80, 3) := by decide +kernel
theorem dX5_clear_15 : decode cX5_clear 15 = .ok (.return_, 1) := by decide +kernel
theorem dX5_size_0 : decode cX5_size 0 = .ok (.aload_n 0, 1) := by decide +kernel
theorem dX5_size_1 : decode cX5_size 1 = .ok (.iconst 0, 1) := by decide +kernel
theorem dX5_size_2 : decode cX5_size 2 = .ok (.putfield 66, 3) := by decide +kernel
theorem dX5_size_5 : decode cX5_size 5 = .ok (.aload_n 0, 1) := by decide +kernel
theorem dX5_size_6 : decode cX5_size 6 = .ok (.getfield 73, 3) := by decide +kernel
theorem dX5_size_9 : decode cX5_size 9 = .ok (.ireturn, 1) := by decide +kernel
