set_option maxRecDepth 20000 in
theorem ggX2_init_J7_fill_53178 : GoodIn wsX2_init wsJ7_fill_53178 := goodIn_r _ [11] (by decide +kernel) (by decide +kernel)
set_option maxRecDepth 20000 in
theorem gX2_init_J7_fill_53178 : GoodIn wsX2_init (va_wsS RX2 19 yJ7_fill_53178 wsJ7_fill_53178) := goodIn_app (goodIn_of _ (by decide +kernel)) ggX2_init_J7_fill_53178
theorem dX2_init_0 : decode cX2_init 0 = .ok (.aload_n 0, 1) := by decide +kernel
theorem dX2_init_1 : decode cX2_init 1 = .ok (.invokespecial 3, 3) := by decide +kernel
theorem dX2_init_4 : decode cX2_init 4 = .ok (.aload_n 0, 1) := by decide +kernel
theorem dX2_init_5 : decode cX2_init 5 = .ok (.bipush 96, 2) := by decide +kernel
theorem dX2_init_7 : decode cX2_init 7 = .ok (.newarray .int, 2) := by decide +kernel
theorem dX2_init_9 : decode cX2_init 9 = .ok (.putfield 9, 3) := by decide +kernel
theorem dX2_init_12 : decode cX2_init 12 = .ok (.aload_n 0, 1) := by decide +kernel
theorem dX2_init_13 : decode cX2_init 13 = .ok (.bipush 24, 2) := by decide +kernel
theorem dX2_init_15 : decode cX2_init 15 = .ok (.newarray .boolean, 2) := by decide +kernel
theorem dX2_init_17 : decode cX2_init 17 = .ok (.putfield 15, 3) := by decide +kernel
theorem dX2_init_20 : decode cX2_init 20 = .ok (.aload_n 0, 1) := by decide +kernel
theorem dX2_init_21 : decode cX2_init 21 = .ok (.getfield 9, 3) := by decide +kernel
theorem dX2_init_24 : decode cX2_init 24 = .ok (.iconst (-1), 1) := by decide +kernel
theorem dX2_init_25 : decode cX2_init 25 = .ok (.invokestatic 19, 3) := by decide +kernel
theorem dX2_init_28 : decode cX2_init 28 = .ok (.return_, 1) := by decide +kernel
set_option maxRecDepth 20000 in
theorem ggX2_setTarget_X4_isBelow : GoodIn wsX2_setTarget wsX4_isBelow := goodIn_r _ [4] (by decide +kernel) (by decide +kernel)
set_option maxRecDepth 20000 in
theorem gX2_setTarget_X4_isBelow_n25 : GoodIn wsX2_setTarget (wsX4_isBelow) := ggX2_setTarget_X4_isBelow
theorem dX2_setTarget_0 : decode cX2_setTarget 0 = .ok (.iload_n 1, 1) := by decide +kernel
theorem dX2_setTarget_1 : decode cX2_setTarget 1 = .ok (.bipush 24, 2) := by decide +kernel
theorem dX2_setTarget_3 : decode cX2_setTarget 3 = .ok (.invokestatic 25, 3) := by decide +kernel
theorem dX2_setTarget_6 : decode cX2_setTarget 6 = .ok (.ifCond .eq 15, 3) := by decide +kernel
theorem dX2_setTarget_9 : decode cX2_setTarget 9 = .ok (.iload_n 2, 1) := by decide +kernel
theorem dX2_setTarget_10 : decode cX2_setTarget 10 = .ok (.iconst 4, 1) := by decide +kernel
theorem dX2_setTarget_11 : decode cX2_setTarget 11 = .ok (.invokestatic 25, 3) := by decide +kernel
theorem dX2_setTarget_14 : decode cX2_setTarget 14 = .ok (.ifCond .eq 7, 3) := by decide +kernel
theorem dX2_setTarget_17 : decode cX2_setTarget 17 = .ok (.iconst 1, 1) := by decide +kernel
theorem dX2_setTarget_18 : decode cX2_setTarget 18 = .ok (.goto 4, 3) := by decide +kernel
theorem dX2_setTarget_21 : decode cX2_setTarget 21 = .ok (.iconst 0, 1) := by decide +kernel
theorem dX2_setTarget_22 : decode cX2_setTarget 22 = .ok (.istore 4, 2) := by decide +kernel
theorem dX2_setTarget_24 : decode cX2_setTarget 24 = .ok (.iload 4, 2) := by decide +kernel
theorem dX2_setTarget_26 : decode cX2_setTarget 26 = .ok (.ifCond .eq 14, 3) := by decide +kernel
theorem dX2_setTarget_29 : decode cX2_setTarget 29 = .ok (.aload_n 0, 1) := by decide +kernel
theorem dX2_setTarget_30 : decode cX2_setTarget 30 = .ok (.getfield 9, 3) := by decide +kernel
theorem dX2_setTarget_33 : decode cX2_setTarget 33 = .ok (.iload_n 1, 1) := by decide +kernel
theorem dX2_setTarget_34 : decode cX2_setTarget 34 = .ok (.iconst 4, 1) := by decide +kernel
theorem dX2_setTarget_35 : decode cX2_setTarget 35 = .ok (.imul, 1) := by decide +kernel
theorem dX2_setTarget_36 : decode cX2_setTarget 36 = .ok (.iload_n 2, 1) := by decide +kernel
theorem dX2_setTarget_37 : decode cX2_setTarget 37 = .ok (.iadd, 1) := by decide +kernel
theorem dX2_setTarget_38 : decode cX2_setTarget 38 = .ok (.iload_n 3, 1) := by decide +kernel
theorem dX2_setTarget_39 : decode cX2_setTarget 39 = .ok (.iastore, 1) := by decide +kernel
theorem dX2_setTarget_40 : decode cX2_setTarget 40 = .ok (.iload 4, 2) := by decide +kernel
theorem dX2_setTarget_42 : decode cX2_setTarget 42 = .ok (.ireturn, 1) := by decide +kernel
set_option maxRecDepth 20000 in
theorem ggX2_setFinal_X4_isBelow : GoodIn wsX2_setFinal wsX4_isBelow := goodIn_r _ [4] (by decide +kernel) (by decide +kernel)
set_option maxRecDepth 20000 in
theorem gX2_setFinal_X4_isBelow_n25 : GoodIn wsX2_setFinal (wsX4_isBelow) := ggX2_setFinal_X4_isBelow
theorem dX2_setFinal_0 : decode cX2_setFinal 0 = .ok (.iload_n 1, 1) := by decide +kernel
theorem dX2_setFinal_1 : decode cX2_setFinal 1 = .ok (.bipush 24, 2) := by decide +kernel
theorem dX2_setFinal_3 : decode cX2_setFinal 3 = .ok (.invokestatic 25, 3) := by decide +kernel
theorem dX2_setFinal_6 : decode cX2_setFinal 6 = .ok (.istore_n 3, 1) := by decide +kernel
theorem dX2_setFinal_7 : decode cX2_setFinal 7 = .ok (.iload_n 3, 1) := by decide +kernel
theorem dX2_setFinal_8 : decode cX2_setFinal 8 = .ok (.ifCond .eq 10, 3) := by decide +kernel
theorem dX2_setFinal_11 : decode cX2_setFinal 11 = .ok (.aload_n 0, 1) := by decide +kernel
theorem dX2_setFinal_12 : decode cX2_setFinal 12 = .ok (.getfield 15, 3) := by decide +kernel
theorem dX2_setFinal_15 : decode cX2_setFinal 15 = .ok (.iload_n 1, 1) := by decide +kernel
theorem dX2_setFinal_16 : decode cX2_setFinal 16 = .ok (.iload_n 2, 1) := by decide +kernel
theorem dX2_setFinal_17 : decode cX2_setFinal 17 = .ok (.bastore, 1) := by decide +kernel
theorem dX2_setFinal_18 : decode cX2_setFinal 18 = .ok (.iload_n 3, 1) := by decide +kernel
theorem dX2_setFinal_19 : decode cX2_setFinal 19 = .ok (.ireturn, 1) := by decide +kernel
set_option maxRecDepth 20000 in
theorem ggX2_targetOf_X4_isBelow : GoodIn wsX2_targetOf wsX4_isBelow := goodIn_r _ [4] (by decide +kernel) (by decide +kernel)
set_option maxRecDepth 20000 in
theorem gX2_targetOf_X4_isBelow_n25 : GoodIn wsX2_targetOf (wsX4_isBelow) := ggX2_targetOf_X4_isBelow
theorem dX2_targetOf_0 : decode cX2_targetOf 0 = .ok (.iload_n 1, 1) := by decide +kernel
theorem dX2_targetOf_1 : decode cX2_targetOf 1 = .ok (.bipush 24, 2) := by decide +kernel
theorem dX2_targetOf_3 : decode cX2_targetOf 3 = .ok (.invokestatic 25, 3) := by decide +kernel
theorem dX2_targetOf_6 : decode cX2_targetOf 6 = .ok (.ifCond .eq 24, 3) := by decide +kernel
theorem dX2_targetOf_9 : decode cX2_targetOf 9 = .ok (.iload_n 2, 1) := by decide +kernel
theorem dX2_targetOf_10 : decode cX2_targetOf 10 = .ok (.iconst 4, 1) := by decide +kernel
theorem dX2_targetOf_11 : decode cX2_targetOf 11 = .ok (.invokestatic 25, 3) := by decide +kernel
theorem dX2_targetOf_14 : decode cX2_targetOf 14 = .ok (.ifCond .eq 16, 3) := by decide +kernel
theorem dX2_targetOf_17 : decode cX2_targetOf 17 = .ok (.aload_n 0, 1) := by decide +kernel
theorem dX2_targetOf_18 : decode cX2_targetOf 18 = .ok (.getfield 9, 3) := by decide +kernel
theorem dX2_targetOf_21 : decode cX2_targetOf 21 = .ok (.iload_n 1, 1) := by decide +kernel
theorem dX2_targetOf_22 : decode cX2_targetOf 22 = .ok (.iconst 4, 1) := by decide +kernel
theorem dX2_targetOf_23 : decode cX2_targetOf 23 = .ok (.imul, 1) := by decide +kernel
theorem dX2_targetOf_24 : decode cX2_targetOf 24 = .ok (.iload_n 2, 1) := by decide +kernel
theorem dX2_targetOf_25 : decode cX2_targetOf 25 = .ok (.iadd, 1) := by decide +kernel
theorem dX2_targetOf_26 : decode cX2_targetOf 26 = .ok (.iaload, 1) := by decide +kernel
theorem dX2_targetOf_27 : decode cX2_targetOf 27 = .ok (.goto 4, 3) := by decide +kernel
theorem dX2_targetOf_30 : decode cX2_targetOf 30 = .ok (.iconst (-1), 1) := by decide +kernel
theorem dX2_targetOf_31 : decode cX2_targetOf 31 = .ok (.ireturn, 1) := by decide +kernel
set_option maxRecDepth 20000 in
theorem ggX2_mayBeLeft_X4_isBelow : GoodIn wsX2_mayBeLeft wsX4_isBelow := goodIn_r _ [4] (by decide +kernel) (by decide +kernel)
set_option maxRecDepth 20000 in
theorem gX2_mayBeLeft_X4_isBelow_n25 : GoodIn wsX2_mayBeLeft (wsX4_isBelow) := ggX2_mayBeLeft_X4_isBelow
theorem dX2_mayBeLeft_0 : decode cX2_mayBeLeft 0 = .ok (.iload_n 1, 1) := by decide +kernel
theorem dX2_mayBeLeft_1 : decode cX2_mayBeLeft 1 = .ok (.bipush 24, 2) := by decide +kernel
theorem dX2_mayBeLeft_3 : decode cX2_mayBeLeft 3 = .ok (.invokestatic 25, 3) := by decide +kernel
theorem dX2_mayBeLeft_6 : decode cX2_mayBeLeft 6 = .ok (.ifCond .eq 16, 3) := by decide +kernel
theorem dX2_mayBeLeft_9 : decode cX2_mayBeLeft 9 = .ok (.aload_n 0, 1) := by decide +kernel
theorem dX2_mayBeLeft_10 : decode cX2_mayBeLeft 10 = .ok (.getfield 15, 3) := by decide +kernel
theorem dX2_mayBeLeft_13 : decode cX2_mayBeLeft 13 = .ok (.iload_n 1, 1) := by decide +kernel
theorem dX2_mayBeLeft_14 : decode cX2_mayBeLeft 14 = .ok (.baload, 1) := by decide +kernel
theorem dX2_mayBeLeft_15 : decode cX2_mayBeLeft 15 = .ok (.ifCond .eq 7, 3) := by decide +kernel
theorem dX2_mayBeLeft_18 : decode cX2_mayBeLeft 18 = .ok (.iconst 1, 1) := by decide +kernel
theorem dX2_mayBeLeft_19 : decode cX2_mayBeLeft 19 = .ok (.goto 4, 3) := by decide +kernel
theorem dX2_mayBeLeft_22 : decode cX2_mayBeLeft 22 = .ok (.iconst 0, 1) := by decide +kernel
theorem dX2_mayBeLeft_23 : decode cX2_mayBeLeft 23 = .ok (.ireturn, 1) := by decide +kernel
set_option maxRecDepth 20000 in
theorem ggX2_faultOfLeaving_X4_heldBy : GoodIn wsX2_faultOfLeaving wsX4_heldBy := goodIn_r _ [3] (by decide +kernel) (by decide +kernel)
set_option maxRecDepth 20000 in
theorem gX2_faultOfLeaving_X4_heldBy_n29 : GoodIn wsX2_faultOfLeaving (wsX4_heldBy) := ggX2_faultOfLeaving_X4_heldBy
set_option maxRecDepth 20000 in
theorem ggX2_faultOfLeaving_X2_mayBeLeft : GoodIn wsX2_faultOfLeaving wsX2_mayBeLeft := goodIn_r _ [8, 9, 10, 2, 11, 12, 13] (by decide +kernel) (by decide +kernel)
set_option maxRecDepth 20000 in
theorem gX2_faultOfLeaving_X2_mayBeLeft : GoodIn wsX2_faultOfLeaving (wsV RX2 33 RX2 yX2_mayBeLeft wsX2_mayBeLeft) := goodIn_app (goodIn_of _ (by decide +kernel)) ggX2_faultOfLeaving_X2_mayBeLeft
theorem dX2_faultOfLeaving_0 : decode cX2_faultOfLeaving 0 = .ok (.iconst 0, 1) := by decide +kernel
theorem dX2_faultOfLeaving_1 : decode cX2_faultOfLeaving 1 = .ok (.istore_n 2, 1) := by decide +kernel
theorem dX2_faultOfLeaving_2 : decode cX2_faultOfLeaving 2 = .ok (.iload_n 2, 1) := by decide +kernel
theorem dX2_faultOfLeaving_3 : decode cX2_faultOfLeaving 3 = .ok (.iconst 4, 1) := by decide +kernel
theorem dX2_faultOfLeaving_4 : decode cX2_faultOfLeaving 4 = .ok (.if_icmp .ge 31, 3) := by decide +kernel
theorem dX2_faultOfLeaving_7 : decode cX2_faultOfLeaving 7 = .ok (.iload_n 1, 1) := by decide +kernel
theorem dX2_faultOfLeaving_8 : decode cX2_faultOfLeaving 8 = .ok (.iload_n 2, 1) := by decide +kernel
theorem dX2_faultOfLeaving_9 : decode cX2_faultOfLeaving 9 = .ok (.invokestatic 29, 3) := by decide +kernel
theorem dX2_faultOfLeaving_12 : decode cX2_faultOfLeaving 12 = .ok (.istore_n 3, 1) := by decide +kernel
theorem dX2_faultOfLeaving_13 : decode cX2_faultOfLeaving 13 = .ok (.iload_n 3, 1) := by decide +kernel
theorem dX2_faultOfLeaving_14 : decode cX2_faultOfLeaving 14 = .ok (.iconst (-1), 1) := by decide +kernel
theorem dX2_faultOfLeaving_15 : decode cX2_faultOfLeaving 15 = .ok (.if_icmp .eq 14, 3) := by decide +kernel
theorem dX2_faultOfLeaving_18 : decode cX2_faultOfLeaving 18 = .ok (.aload_n 0, 1) := by decide +kernel
theorem dX2_faultOfLeaving_19 : decode cX2_faultOfLeaving 19 = .ok (.iload_n 3, 1) := by decide +kernel
theorem dX2_faultOfLeaving_20 : decode cX2_faultOfLeaving 20 = .ok (.invokevirtual 33, 3) := by decide +kernel
theorem dX2_faultOfLeaving_23 : decode cX2_faultOfLeaving 23 = .ok (.ifCond .ne 6, 3) := by decide +kernel
theorem dX2_faultOfLeaving_26 : decode cX2_faultOfLeaving 26 = .ok (.bipush 7, 2) := by decide +kernel
theorem dX2_faultOfLeaving_28 : decode cX2_faultOfLeaving 28 = .ok (.ireturn, 1) := by decide +kernel
theorem dX2_faultOfLeaving_29 : decode cX2_faultOfLeaving 29 = .ok (.iinc 2 1, 3) := by decide +kernel
theorem dX2_faultOfLeaving_32 : decode cX2_faultOfLeaving 32 = .ok (.goto (-30), 3) := by decide +kernel
theorem dX2_faultOfLeaving_35 : decode cX2_faultOfLeaving 35 = .ok (.iconst 0, 1) := by decide +kernel
theorem dX2_faultOfLeaving_36 : decode cX2_faultOfLeaving 36 = .ok (.ireturn, 1) := by decide +kernel
theorem dX3_init_0 : decode cX3_init 0 = .ok (.aload_n 0, 1) := by decide +kernel
theorem dX3_init_1 : decode cX3_init 1 = .ok (.invokespecial 3, 3) := by decide +kernel
theorem dX3_init_4 : decode cX3_init 4 = .ok (.aload_n 0, 1) := by decide +kernel
theorem dX3_init_5 : decode cX3_init 5 = .ok (.aload_n 1, 1) := by decide +kernel
theorem dX3_init_6 : decode cX3_init 6 = .ok (.putfield 9, 3) := by decide +kernel
theorem dX3_init_9 : decode cX3_init 9 = .ok (.aload_n 0, 1) := by decide +kernel
theorem dX3_init_10 : decode cX3_init 10 = .ok (.aload_n 2, 1) := by decide +kernel
theorem dX3_init_11 : decode cX3_init 11 = .ok (.putfield 15, 3) := by decide +kernel
theorem dX3_init_14 : decode cX3_init 14 = .ok (.aload_n 0, 1) := by decide +kernel
theorem dX3_init_15 : decode cX3_init 15 = .ok (.iconst 0, 1) := by decide +kernel
theorem dX3_init_16 : decode cX3_init 16 = .ok (.putfield 19, 3) := by decide +kernel
theorem dX3_init_19 : decode cX3_init 19 = .ok (.aload_n 0, 1) := by decide +kernel
theorem dX3_init_20 : decode cX3_init 20 = .ok (.iconst (-1), 1) := by decide +kernel
theorem dX3_init_21 : decode cX3_init 21 = .ok (.putfield 23, 3) := by decide +kernel
theorem dX3_init_24 : decode cX3_init 24 = .ok (.aload_n 0, 1) := by decide +kernel
theorem dX3_init_25 : decode cX3_init 25 = .ok (.iconst 0, 1) := by decide +kernel
theorem dX3_init_26 : decode cX3_init 26 = .ok (.putfield 26, 3) := by decide +kernel
theorem dX3_init_29 : decode cX3_init 29 = .ok (.return_, 1) := by decide +kernel
set_option maxRecDepth 20000 in
theorem ggX3_runProgram_X1_hasEntry : GoodIn wsX3_runProgram wsX1_hasEntry := goodIn_r _ [14, 15, 16, 17, 18, 72, 73, 74, 75, 76, 77, 78, 79, 80] (by decide +kernel) (by decide +kernel)
set_option maxRecDepth 20000 in
theorem gX3_runProgram_X1_hasEntry : GoodIn wsX3_runProgram (wsV RX3 39 RX1 yX1_hasEntry wsX1_hasEntry) := goodIn_app (goodIn_of _ (by decide +kernel)) ggX3_runProgram_X1_hasEntry
set_option maxRecDepth 20000 in
theorem ggX3_runProgram_X3_doEntry : GoodIn wsX3_runProgram wsX3_doEntry := goodIn_r _ [23, 8, 24, 25, 26, 22, 27, 3, 6, 5, 28, 29, 30, 31, 4, 9, 1, 2, 32, 33, 34, 13, 35, 36, 37, 38, 39, 11, 12, 14, 15, 16, 17, 18, 40, 41, 42, 43, 44, 45, 46, 47, 48, 49, 50, 51, 52, 53, 54, 55, 56, 57, 58, 64, 65, 66, 67, 68, 69, 70, 71, 72, 73, 74, 75, 76, 77, 78, 79, 80, 81, 82] (by decide +kernel) (by decide +kernel)
set_option maxRecDepth 20000 in
theorem gX3_runProgram_X3_doEntry : GoodIn wsX3_runProgram (wsV RX3 45 RX3 yX3_doEntry wsX3_doEntry) := goodIn_app (goodIn_of _ (by decide +kernel)) ggX3_runProgram_X3_doEntry
set_option maxRecDepth 20000 in
theorem ggX3_runProgram_X2_faultOfLeaving : GoodIn wsX3_runProgram wsX2_faultOfLeaving := goodIn_r _ [62, 40, 17, 41, 63, 55, 56, 49, 57, 58, 16, 18, 81, 82] (by decide +kernel) (by decide +kernel)
set_option maxRecDepth 20000 in
theorem gX3_runProgram_X2_faultOfLeaving : GoodIn wsX3_runProgram (wsV RX3 49 RX2 yX2_faultOfLeaving wsX2_faultOfLeaving) := goodIn_app (goodIn_of _ (by decide +kernel)) ggX3_runProgram_X2_faultOfLeaving
theorem dX3_runProgram_0 : decode cX3_runProgram 0 = .ok (.aload_n 0, 1) := by decide +kernel
theorem dX3_runProgram_1 : decode cX3_runProgram 1 = .ok (.iconst 0, 1) := by decide +kernel
theorem dX3_runProgram_2 : decode cX3_runProgram 2 = .ok (.putfield 19, 3) := by decide +kernel
theorem dX3_runProgram_5 : decode cX3_runProgram 5 = .ok (.aload_n 0, 1) := by decide +kernel
theorem dX3_runProgram_6 : decode cX3_runProgram 6 = .ok (.iconst (-1), 1) := by decide +kernel
theorem dX3_runProgram_7 : decode cX3_runProgram 7 = .ok (.putfield 23, 3) := by decide +kernel
theorem dX3_runProgram_10 : decode cX3_runProgram 10 = .ok (.aload_n 0, 1) := by decide +kernel
theorem dX3_runProgram_11 : decode cX3_runProgram 11 = .ok (.iconst 0, 1) := by decide +kernel
theorem dX3_runProgram_12 : decode cX3_runProgram 12 = .ok (.putfield 29, 3) := by decide +kernel
theorem dX3_runProgram_15 : decode cX3_runProgram 15 = .ok (.aload_n 0, 1) := by decide +kernel
theorem dX3_runProgram_16 : decode cX3_runProgram 16 = .ok (.iconst 0, 1) := by decide +kernel
theorem dX3_runProgram_17 : decode cX3_runProgram 17 = .ok (.putfield 26, 3) := by decide +kernel
theorem dX3_runProgram_20 : decode cX3_runProgram 20 = .ok (.aload_n 0, 1) := by decide +kernel
theorem dX3_runProgram_21 : decode cX3_runProgram 21 = .ok (.iload_n 1, 1) := by decide +kernel
theorem dX3_runProgram_22 : decode cX3_runProgram 22 = .ok (.putfield 32, 3) := by decide +kernel
theorem dX3_runProgram_25 : decode cX3_runProgram 25 = .ok (.aload_n 0, 1) := by decide +kernel
theorem dX3_runProgram_26 : decode cX3_runProgram 26 = .ok (.iload_n 2, 1) := by decide +kernel
theorem dX3_runProgram_27 : decode cX3_runProgram 27 = .ok (.putfield 35, 3) := by decide +kernel
theorem dX3_runProgram_30 : decode cX3_runProgram 30 = .ok (.iconst 0, 1) := by decide +kernel
theorem dX3_runProgram_31 : decode cX3_runProgram 31 = .ok (.istore_n 3, 1) := by decide +kernel
theorem dX3_runProgram_32 : decode cX3_runProgram 32 = .ok (.iconst 0, 1) := by decide +kernel
theorem dX3_runProgram_33 : decode cX3_runProgram 33 = .ok (.istore 4, 2) := by decide +kernel
theorem dX3_runProgram_35 : decode cX3_runProgram 35 = .ok (.iload 4, 2) := by decide +kernel
theorem dX3_runProgram_37 : decode cX3_runProgram 37 = .ok (.ldc 38, 2) := by decide +kernel
theorem dX3_runProgram_39 : decode cX3_runProgram 39 = .ok (.if_icmp .ge 34, 3) := by decide +kernel
theorem dX3_runProgram_42 : decode cX3_runProgram 42 = .ok (.aload_n 0, 1) := by decide +kernel
theorem dX3_runProgram_43 : decode cX3_runProgram 43 = .ok (.getfield 9, 3) := by decide +kernel
theorem dX3_runProgram_46 : decode cX3_runProgram 46 = .ok (.iload_n 3, 1) := by decide +kernel
theorem dX3_runProgram_47 : decode cX3_runProgram 47 = .ok (.invokevirtual 39, 3) := by decide +kernel
theorem dX3_runProgram_50 : decode cX3_runProgram 50 = .ok (.ifCond .eq 23, 3) := by decide +kernel
theorem dX3_runProgram_53 : decode cX3_runProgram 53 = .ok (.aload_n 0, 1) := by decide +kernel
theorem dX3_runProgram_54 : decode cX3_runProgram 54 = .ok (.iload_n 3, 1) := by decide +kernel
theorem dX3_runProgram_55 : decode cX3_runProgram 55 = .ok (.invokevirtual 45, 3) := by decide +kernel
theorem dX3_runProgram_58 : decode cX3_runProgram 58 = .ok (.istore_n 3, 1) := by decide +kernel
theorem dX3_runProgram_59 : decode cX3_runProgram 59 = .ok (.aload_n 0, 1) := by decide +kernel
theorem dX3_runProgram_60 : decode cX3_runProgram 60 = .ok (.getfield 19, 3) := by decide +kernel
theorem dX3_runProgram_63 : decode cX3_runProgram 63 = .ok (.ifCond .eq 4, 3) := by decide +kernel
theorem dX3_runProgram_66 : decode cX3_runProgram 66 = .ok (.return_, 1) := by decide +kernel
theorem dX3_runProgram_67 : decode cX3_runProgram 67 = .ok (.iinc 4 1, 3) := by decide +kernel
theorem dX3_runProgram_70 : decode cX3_runProgram 70 = .ok (.goto (-35), 3) := by decide +kernel
theorem dX3_runProgram_73 : decode cX3_runProgram 73 = .ok (.aload_n 0, 1) := by decide +kernel
theorem dX3_runProgram_74 : decode cX3_runProgram 74 = .ok (.aload_n 0, 1) := by decide +kernel
theorem dX3_runProgram_75 : decode cX3_runProgram 75 = .ok (.getfield 15, 3) := by decide +kernel
theorem dX3_runProgram_78 : decode cX3_runProgram 78 = .ok (.aload_n 0, 1) := by decide +kernel
theorem dX3_runProgram_79 : decode cX3_runProgram 79 = .ok (.getfield 26, 3) := by decide +kernel
theorem dX3_runProgram_82 : decode cX3_runProgram 82 = .ok (.invokevirtual 49, 3) := by decide +kernel
theorem dX3_runProgram_85 : decode cX3_runProgram 85 = .ok (.putfield 19, 3) := by decide +kernel
theorem dX3_runProgram_88 : decode cX3_runProgram 88 = .ok (.aload_n 0, 1) := by decide +kernel
theorem dX3_runProgram_89 : decode cX3_runProgram 89 = .ok (.getfield 19, 3) := by decide +kernel
theorem dX3_runProgram_92 : decode cX3_runProgram 92 = .ok (.ifCond .eq 14, 3) := by decide +kernel
theorem dX3_runProgram_95 : decode cX3_runProgram 95 = .ok (.aload_n 0, 1) := by decide +kernel
theorem dX3_runProgram_96 : decode cX3_runProgram 96 = .ok (.aload_n 0, 1) := by decide +kernel
theorem dX3_runProgram_97 : decode cX3_runProgram 97 = .ok (.getfield 9, 3) := by decide +kernel
theorem dX3_runProgram_100 : decode cX3_runProgram 100 = .ok (.getfield 54, 3) := by decide +kernel
theorem dX3_runProgram_103 : decode cX3_runProgram 103 = .ok (.putfield 23, 3) := by decide +kernel
theorem dX3_runProgram_106 : decode cX3_runProgram 106 = .ok (.return_, 1) := by decide +kernel
set_option maxRecDepth 20000 in
theorem ggX3_doEntry_X3_takeBit : GoodIn wsX3_doEntry wsX3_takeBit := goodIn_r _ [6, 7, 8, 9, 53, 54, 55, 56, 57, 58, 59, 60] (by decide +kernel) (by decide +kernel)
set_option maxRecDepth 20000 in
theorem gX3_doEntry_X3_takeBit : GoodIn wsX3_doEntry (wsV RX3 61 RX3 yX3_takeBit wsX3_takeBit) := goodIn_app (goodIn_of _ (by decide +kernel)) ggX3_doEntry_X3_takeBit
set_option maxRecDepth 20000 in
theorem ggX3_doEntry_X3_doSimple : GoodIn wsX3_doEntry wsX3_doSimple := goodIn_r _ [13, 1, 14, 15, 16, 17, 7, 18, 19, 20, 21, 22, 23, 24, 25, 26, 27, 28, 29, 30, 31, 32, 33, 34, 35, 36, 37, 38, 39, 40, 41, 42, 43, 44, 45, 46, 47, 48, 49, 50, 51, 52, 53, 54, 55, 56, 57, 58, 59, 60, 61, 62, 63, 64, 65, 66, 67, 68, 69, 70, 71] (by decide +kernel) (by decide +kernel)
set_option maxRecDepth 20000 in
theorem gX3_doEntry_X3_doSimple : GoodIn wsX3_doEntry (wsV RX3 68 RX3 yX3_doSimple wsX3_doSimple) := goodIn_app (goodIn_of _ (by decide +kernel)) ggX3_doEntry_X3_doSimple
theorem dX3_doEntry_0 : decode cX3_doEntry 0 = .ok (.aload_n 0, 1) := by decide +kernel
theorem dX3_doEntry_1 : decode cX3_doEntry 1 = .ok (.getfield 9, 3) := by decide +kernel
theorem dX3_doEntry_4 : decode cX3_doEntry 4 = .ok (.getfield 57, 3) := by decide +kernel
theorem dX3_doEntry_7 : decode cX3_doEntry 7 = .ok (.iload_n 1, 1) := by decide +kernel
theorem dX3_doEntry_8 : decode cX3_doEntry 8 = .ok (.iaload, 1) := by decide +kernel
theorem dX3_doEntry_9 : decode cX3_doEntry 9 = .ok (.tableswitch 72 4 8 #[35, 58, 68, 35, 58], 35) := by decide +kernel
theorem dX3_doEntry_44 : decode cX3_doEntry 44 = .ok (.aload_n 0, 1) := by decide +kernel
theorem dX3_doEntry_45 : decode cX3_doEntry 45 = .ok (.invokevirtual 61, 3) := by decide +kernel
theorem dX3_doEntry_48 : decode cX3_doEntry 48 = .ok (.ifCond .eq 9, 3) := by decide +kernel
theorem dX3_doEntry_51 : decode cX3_doEntry 51 = .ok (.iload_n 1, 1) := by decide +kernel
theorem dX3_doEntry_52 : decode cX3_doEntry 52 = .ok (.iconst 1, 1) := by decide +kernel
theorem dX3_doEntry_53 : decode cX3_doEntry 53 = .ok (.iadd, 1) := by decide +kernel
theorem dX3_doEntry_54 : decode cX3_doEntry 54 = .ok (.goto 12, 3) := by decide +kernel
theorem dX3_doEntry_57 : decode cX3_doEntry 57 = .ok (.aload_n 0, 1) := by decide +kernel
theorem dX3_doEntry_58 : decode cX3_doEntry 58 = .ok (.getfield 9, 3) := by decide +kernel
theorem dX3_doEntry_61 : decode cX3_doEntry 61 = .ok (.getfield 65, 3) := by decide +kernel
theorem dX3_doEntry_64 : decode cX3_doEntry 64 = .ok (.iload_n 1, 1) := by decide +kernel
theorem dX3_doEntry_65 : decode cX3_doEntry 65 = .ok (.iaload, 1) := by decide +kernel
theorem dX3_doEntry_66 : decode cX3_doEntry 66 = .ok (.ireturn, 1) := by decide +kernel
theorem dX3_doEntry_67 : decode cX3_doEntry 67 = .ok (.aload_n 0, 1) := by decide +kernel
theorem dX3_doEntry_68 : decode cX3_doEntry 68 = .ok (.getfield 9, 3) := by decide +kernel
theorem dX3_doEntry_71 : decode cX3_doEntry 71 = .ok (.getfield 65, 3) := by decide +kernel
theorem dX3_doEntry_74 : decode cX3_doEntry 74 = .ok (.iload_n 1, 1) := by decide +kernel
theorem dX3_doEntry_75 : decode cX3_doEntry 75 = .ok (.iaload, 1) := by decide +kernel
theorem dX3_doEntry_76 : decode cX3_doEntry 76 = .ok (.ireturn, 1) := by decide +kernel
theorem dX3_doEntry_77 : decode cX3_doEntry 77 = .ok (.iload_n 1, 1) := by decide +kernel
theorem dX3_doEntry_78 : decode cX3_doEntry 78 = .ok (.iconst 1, 1) := by decide +kernel
theorem dX3_doEntry_79 : decode cX3_doEntry 79 = .ok (.iadd, 1) := by decide +kernel
theorem dX3_doEntry_80 : decode cX3_doEntry 80 = .ok (.ireturn, 1) := by decide +kernel
theorem dX3_doEntry_81 : decode cX3_doEntry 81 = .ok (.aload_n 0, 1) := by decide +kernel
theorem dX3_doEntry_82 : decode cX3_doEntry 82 = .ok (.iload_n 1, 1) := by decide +kernel
theorem dX3_doEntry_83 : decode cX3_doEntry 83 = .ok (.invokevirtual 68, 3) := by decide +kernel
theorem dX3_doEntry_86 : decode cX3_doEntry 86 = .ok (.iload_n 1, 1) := by decide +kernel
theorem dX3_doEntry_87 : decode cX3_doEntry 87 = .ok (.iconst 1, 1) := by decide +kernel
theorem dX3_doEntry_88 : decode cX3_doEntry 88 = .ok (.iadd, 1) := by decide +kernel
theorem dX3_doEntry_89 : decode cX3_doEntry 89 = .ok (.ireturn, 1) := by decide +kernel
set_option maxRecDepth 20000 in
theorem ggX3_doSimple_X1_afterSimple : GoodIn wsX3_doSimple wsX1_afterSimple := goodIn_r _ [11, 12, 13, 14, 15, 16, 17, 10, 18, 19, 20, 21, 22, 23, 24, 25, 26, 27, 28, 29, 30, 31, 32, 33, 34, 35, 36, 37, 38, 39, 40, 41, 50, 51, 52, 53, 54, 55, 56, 57, 58, 59, 60] (by decide +kernel) (by decide +kernel)
set_option maxRecDepth 20000 in
theorem gX3_doSimple_X1_afterSimple : GoodIn wsX3_doSimple (wsV RX3 72 RX1 yX1_afterSimple wsX1_afterSimple) := goodIn_app (goodIn_of _ (by decide +kernel)) ggX3_doSimple_X1_afterSimple
theorem dX3_doSimple_0 : decode cX3_doSimple 0 = .ok (.aload_n 0, 1) := by decide +kernel
theorem dX3_doSimple_1 : decode cX3_doSimple 1 = .ok (.getfield 9, 3) := by decide +kernel
theorem dX3_doSimple_4 : decode cX3_doSimple 4 = .ok (.iload_n 1, 1) := by decide +kernel
theorem dX3_doSimple_5 : decode cX3_doSimple 5 = .ok (.aload_n 0, 1) := by decide +kernel
theorem dX3_doSimple_6 : decode cX3_doSimple 6 = .ok (.getfield 26, 3) := by decide +kernel
theorem dX3_doSimple_9 : decode cX3_doSimple 9 = .ok (.aload_n 0, 1) := by decide +kernel
theorem dX3_doSimple_10 : decode cX3_doSimple 10 = .ok (.getfield 15, 3) := by decide +kernel
theorem dX3_doSimple_13 : decode cX3_doSimple 13 = .ok (.invokevirtual 72, 3) := by decide +kernel
theorem dX3_doSimple_16 : decode cX3_doSimple 16 = .ok (.istore_n 2, 1) := by decide +kernel
theorem dX3_doSimple_17 : decode cX3_doSimple 17 = .ok (.iload_n 2, 1) := by decide +kernel
theorem dX3_doSimple_18 : decode cX3_doSimple 18 = .ok (.ifCond .ge 25, 3) := by decide +kernel
theorem dX3_doSimple_21 : decode cX3_doSimple 21 = .ok (.aload_n 0, 1) := by decide +kernel
theorem dX3_doSimple_22 : decode cX3_doSimple 22 = .ok (.iload_n 2, 1) := by decide +kernel
theorem dX3_doSimple_23 : decode cX3_doSimple 23 = .ok (.ineg, 1) := by decide +kernel
theorem dX3_doSimple_24 : decode cX3_doSimple 24 = .ok (.putfield 19, 3) := by decide +kernel
theorem dX3_doSimple_27 : decode cX3_doSimple 27 = .ok (.aload_n 0, 1) := by decide +kernel
theorem dX3_doSimple_28 : decode cX3_doSimple 28 = .ok (.aload_n 0, 1) := by decide +kernel
theorem dX3_doSimple_29 : decode cX3_doSimple 29 = .ok (.getfield 9, 3) := by decide +kernel
theorem dX3_doSimple_32 : decode cX3_doSimple 32 = .ok (.getfield 76, 3) := by decide +kernel
theorem dX3_doSimple_35 : decode cX3_doSimple 35 = .ok (.iload_n 1, 1) := by decide +kernel
theorem dX3_doSimple_36 : decode cX3_doSimple 36 = .ok (.iaload, 1) := by decide +kernel
theorem dX3_doSimple_37 : decode cX3_doSimple 37 = .ok (.putfield 23, 3) := by decide +kernel
theorem dX3_doSimple_40 : decode cX3_doSimple 40 = .ok (.goto 18, 3) := by decide +kernel
theorem dX3_doSimple_43 : decode cX3_doSimple 43 = .ok (.aload_n 0, 1) := by decide +kernel
theorem dX3_doSimple_44 : decode cX3_doSimple 44 = .ok (.iload_n 2, 1) := by decide +kernel
theorem dX3_doSimple_45 : decode cX3_doSimple 45 = .ok (.putfield 26, 3) := by decide +kernel
theorem dX3_doSimple_48 : decode cX3_doSimple 48 = .ok (.aload_n 0, 1) := by decide +kernel
theorem dX3_doSimple_49 : decode cX3_doSimple 49 = .ok (.dup, 1) := by decide +kernel
theorem dX3_doSimple_50 : decode cX3_doSimple 50 = .ok (.getfield 29, 3) := by decide +kernel
theorem dX3_doSimple_53 : decode cX3_doSimple 53 = .ok (.iconst 1, 1) := by decide +kernel
theorem dX3_doSimple_54 : decode cX3_doSimple 54 = .ok (.iadd, 1) := by decide +kernel
theorem dX3_doSimple_55 : decode cX3_doSimple 55 = .ok (.putfield 29, 3) := by decide +kernel
theorem dX3_doSimple_58 : decode cX3_doSimple 58 = .ok (.return_, 1) := by decide +kernel
theorem dX3_takeBit_0 : decode cX3_takeBit 0 = .ok (.aload_n 0, 1) := by decide +kernel
theorem dX3_takeBit_1 : decode cX3_takeBit 1 = .ok (.dup, 1) := by decide +kernel
theorem dX3_takeBit_2 : decode cX3_takeBit 2 = .ok (.getfield 29, 3) := by decide +kernel
theorem dX3_takeBit_5 : decode cX3_takeBit 5 = .ok (.iconst 1, 1) := by decide +kernel
theorem dX3_takeBit_6 : decode cX3_takeBit 6 = .ok (.iadd, 1) := by decide +kernel
theorem dX3_takeBit_7 : decode cX3_takeBit 7 = .ok (.putfield 29, 3) := by decide +kernel
theorem dX3_takeBit_10 : decode cX3_takeBit 10 = .ok (.aload_n 0, 1) := by decide +kernel
theorem dX3_takeBit_11 : decode cX3_takeBit 11 = .ok (.getfield 35, 3) := by decide +kernel
theorem dX3_takeBit_14 : decode cX3_takeBit 14 = .ok (.ifCond .gt 5, 3) := by decide +kernel
theorem dX3_takeBit_17 : decode cX3_takeBit 17 = .ok (.iconst 0, 1) := by decide +kernel
theorem dX3_takeBit_18 : decode cX3_takeBit 18 = .ok (.ireturn, 1) := by decide +kernel
theorem dX3_takeBit_19 : decode cX3_takeBit 19 = .ok (.aload_n 0, 1) := by decide +kernel
theorem dX3_takeBit_20 : decode cX3_takeBit 20 = .ok (.getfield 32, 3) := by decide +kernel
theorem dX3_takeBit_23 : decode cX3_takeBit 23 = .ok (.iconst 1, 1) := by decide +kernel
theorem dX3_takeBit_24 : decode cX3_takeBit 24 = .ok (.iand, 1) := by decide +kernel
theorem dX3_takeBit_25 : decode cX3_takeBit 25 = .ok (.iconst 1, 1) := by decide +kernel
theorem dX3_takeBit_26 : decode cX3_takeBit 26 = .ok (.if_icmp .ne 7, 3) := by decide +kernel
theorem dX3_takeBit_29 : decode cX3_takeBit 29 = .ok (.iconst 1, 1) := by decide +kernel
theorem dX3_takeBit_30 : decode cX3_takeBit 30 = .ok (.goto 4, 3) := by decide +kernel
theorem dX3_takeBit_33 : decode cX3_takeBit 33 = .ok (.iconst 0, 1) := by decide +kernel
theorem dX3_takeBit_34 : decode cX3_takeBit 34 = .ok (.istore_n 1, 1) := by decide +kernel
theorem dX3_takeBit_35 : decode cX3_takeBit 35 = .ok (.aload_n 0, 1) := by decide +kernel
theorem dX3_takeBit_36 : decode cX3_takeBit 36 = .ok (.dup, 1) := by decide +kernel
theorem dX3_takeBit_37 : decode cX3_takeBit 37 = .ok (.getfield 32, 3) := by decide +kernel
theorem dX3_takeBit_40 : decode cX3_takeBit 40 = .ok (.iconst 1, 1) := by decide +kernel
theorem dX3_takeBit_41 : decode cX3_takeBit 41 = .ok (.iushr, 1) := by decide +kernel
theorem dX3_takeBit_42 : decode cX3_takeBit 42 = .ok (.putfield 32, 3) := by decide +kernel
theorem dX3_takeBit_45 : decode cX3_takeBit 45 = .ok (.aload_n 0, 1) := by decide +kernel
theorem dX3_takeBit_46 : decode cX3_takeBit 46 = .ok (.dup, 1) := by decide +kernel
theorem dX3_takeBit_47 : decode cX3_takeBit 47 = .ok (.getfield 35, 3) := by decide +kernel
theorem dX3_takeBit_50 : decode cX3_takeBit 50 = .ok (.iconst 1, 1) := by decide +kernel
theorem dX3_takeBit_51 : decode cX3_takeBit 51 = .ok (.isub, 1) := by decide +kernel
theorem dX3_takeBit_52 : decode cX3_takeBit 52 = .ok (.putfield 35, 3) := by decide +kernel
theorem dX3_takeBit_55 : decode cX3_takeBit 55 = .ok (.iload_n 1, 1) := by decide +kernel
theorem dX3_takeBit_56 : decode cX3_takeBit 56 = .ok (.ireturn, 1) := by decide +kernel
set_option maxRecDepth 20000 in
theorem ggX4_init_X2_init : GoodIn wsX4_init wsX2_init := goodIn_r _ [22, 23, 2, 3, 24, 25, 26, 27, 28, 29, 30, 31, 61, 62] (by decide +kernel) (by decide +kernel)
set_option maxRecDepth 20000 in
theorem gX4_init_X2_init : GoodIn wsX4_init (wsX2_init) := ggX4_init_X2_init
set_option maxRecDepth 20000 in
theorem ggX4_init_X1_init : GoodIn wsX4_init wsX1_init := goodIn_r _ [34, 35, 2, 3, 24, 36, 37, 38, 39, 40, 41, 67, 68, 69, 70, 71, 72, 73, 74, 75] (by decide +kernel) (by decide +kernel)
set_option maxRecDepth 20000 in
theorem gX4_init_X1_init : GoodIn wsX4_init (wsX1_init) := ggX4_init_X1_init
set_option maxRecDepth 20000 in
theorem ggX4_init_X0_init : GoodIn wsX4_init wsX0_init := goodIn_r _ [44, 45, 2, 3, 46, 47, 24, 48, 49, 50, 51, 29, 30, 31, 76, 77, 78, 79, 80] (by decide +kernel) (by decide +kernel)
set_option maxRecDepth 20000 in
theorem gX4_init_X0_init : GoodIn wsX4_init (wsX0_init) := ggX4_init_X0_init
set_option maxRecDepth 20000 in
theorem ggX4_init_X3_init : GoodIn wsX4_init wsX3_init := goodIn_r _ [54, 55, 2, 3, 56, 57, 58, 59, 60, 81, 82, 83, 84, 85, 86, 87, 88] (by decide +kernel) (by decide +kernel)
set_option maxRecDepth 20000 in
theorem gX4_init_X3_init : GoodIn wsX4_init (wsX3_init) := ggX4_init_X3_init
theorem dX4_init_0 : decode cX4_init 0 = .ok (.aload_n 0, 1) := by decide +kernel
theorem dX4_init_1 : decode cX4_init 1 = .ok (.invokespecial 3, 3) := by decide +kernel
theorem dX4_init_4 : decode cX4_init 4 = .ok (.aload_n 0, 1) := by decide +kernel
theorem dX4_init_5 : decode cX4_init 5 = .ok (.new 9, 3) := by decide +kernel
theorem dX4_init_8 : decode cX4_init 8 = .ok (.dup, 1) := by decide +kernel
theorem dX4_init_9 : decode cX4_init 9 = .ok (.invokespecial 11, 3) := by decide +kernel
theorem dX4_init_12 : decode cX4_init 12 = .ok (.putfield 12, 3) := by decide +kernel
theorem dX4_init_15 : decode cX4_init 15 = .ok (.aload_n 0, 1) := by decide +kernel
theorem dX4_init_16 : decode cX4_init 16 = .ok (.new 16, 3) := by decide +kernel
theorem dX4_init_19 : decode cX4_init 19 = .ok (.dup, 1) := by decide +kernel
theorem dX4_init_20 : decode cX4_init 20 = .ok (.invokespecial 18, 3) := by decide +kernel
theorem dX4_init_23 : decode cX4_init 23 = .ok (.putfield 19, 3) := by decide +kernel
theorem dX4_init_26 : decode cX4_init 26 = .ok (.aload_n 0, 1) := by decide +kernel
theorem dX4_init_27 : decode cX4_init 27 = .ok (.new 23, 3) := by decide +kernel
theorem dX4_init_30 : decode cX4_init 30 = .ok (.dup, 1) := by decide +kernel
theorem dX4_init_31 : decode cX4_init 31 = .ok (.aload_n 0, 1) := by decide +kernel
theorem dX4_init_32 : decode cX4_init 32 = .ok (.getfield 19, 3) := by decide +kernel
theorem dX4_init_35 : decode cX4_init 35 = .ok (.aload_n 0, 1) := by decide +kernel
theorem dX4_init_36 : decode cX4_init 36 = .ok (.getfield 12, 3) := by decide +kernel
theorem dX4_init_39 : decode cX4_init 39 = .ok (.invokespecial 25, 3) := by decide +kernel
theorem dX4_init_42 : decode cX4_init 42 = .ok (.putfield 28, 3) := by decide +kernel
theorem dX4_init_45 : decode cX4_init 45 = .ok (.aload_n 0, 1) := by decide +kernel
theorem dX4_init_46 : decode cX4_init 46 = .ok (.new 32, 3) := by decide +kernel
theorem dX4_init_49 : decode cX4_init 49 = .ok (.dup, 1) := by decide +kernel
theorem dX4_init_50 : decode cX4_init 50 = .ok (.aload_n 0, 1) := by decide +kernel
theorem dX4_init_51 : decode cX4_init 51 = .ok (.getfield 19, 3) := by decide +kernel
theorem dX4_init_54 : decode cX4_init 54 = .ok (.aload_n 0, 1) := by decide +kernel
theorem dX4_init_55 : decode cX4_init 55 = .ok (.getfield 12, 3) := by decide +kernel
theorem dX4_init_58 : decode cX4_init 58 = .ok (.invokespecial 34, 3) := by decide +kernel
theorem dX4_init_61 : decode cX4_init 61 = .ok (.putfield 35, 3) := by decide +kernel
theorem dX4_init_64 : decode cX4_init 64 = .ok (.return_, 1) := by decide +kernel
set_option maxRecDepth 20000 in
theorem ggX4_lead_X4_isState : GoodIn wsX4_lead wsX4_isState := goodIn_r _ [5, 6, 7, 4, 8] (by decide +kernel) (by decide +kernel)
set_option maxRecDepth 20000 in
theorem gX4_lead_X4_isState : GoodIn wsX4_lead (va_wsS RX4 39 yX4_isState wsX4_isState) := goodIn_app (goodIn_of _ (by decide +kernel)) ggX4_lead_X4_isState
set_option maxRecDepth 20000 in
theorem ggX4_lead_X4_isBelow : GoodIn wsX4_lead wsX4_isBelow := goodIn_r _ [8] (by decide +kernel) (by decide +kernel)
set_option maxRecDepth 20000 in
theorem gX4_lead_X4_isBelow : GoodIn wsX4_lead (va_wsS RX4 43 yX4_isBelow wsX4_isBelow) := goodIn_app (goodIn_of _ (by decide +kernel)) ggX4_lead_X4_isBelow
set_option maxRecDepth 20000 in
theorem ggX4_lead_X4_objectOf : GoodIn wsX4_lead wsX4_objectOf := goodIn_r _ [11] (by decide +kernel) (by decide +kernel)
set_option maxRecDepth 20000 in
theorem gX4_lead_X4_objectOf : GoodIn wsX4_lead (va_wsS RX4 46 yX4_objectOf wsX4_objectOf) := goodIn_app (goodIn_of _ (by decide +kernel)) ggX4_lead_X4_objectOf
set_option maxRecDepth 20000 in
theorem ggX4_lead_X2_setTarget : GoodIn wsX4_lead wsX2_setTarget := goodIn_r _ [16, 17, 7, 4, 8, 22, 23] (by decide +kernel) (by decide +kernel)
set_option maxRecDepth 20000 in
theorem gX4_lead_X2_setTarget : GoodIn wsX4_lead (wsV RX4 50 RX2 yX2_setTarget wsX2_setTarget) := goodIn_app (goodIn_of _ (by decide +kernel)) ggX4_lead_X2_setTarget
theorem dX4_lead_0 : decode cX4_lead 0 = .ok (.iload_n 1, 1) := by decide +kernel
theorem dX4_lead_1 : decode cX4_lead 1 = .ok (.iload_n 2, 1) := by decide +kernel
theorem dX4_lead_2 : decode cX4_lead 2 = .ok (.invokestatic 39, 3) := by decide +kernel
theorem dX4_lead_5 : decode cX4_lead 5 = .ok (.ifCond .eq 30, 3) := by decide +kernel
theorem dX4_lead_8 : decode cX4_lead 8 = .ok (.iload_n 3, 1) := by decide +kernel
theorem dX4_lead_9 : decode cX4_lead 9 = .ok (.iconst 4, 1) := by decide +kernel
theorem dX4_lead_10 : decode cX4_lead 10 = .ok (.invokestatic 43, 3) := by decide +kernel
theorem dX4_lead_13 : decode cX4_lead 13 = .ok (.ifCond .eq 22, 3) := by decide +kernel
theorem dX4_lead_16 : decode cX4_lead 16 = .ok (.iload 4, 2) := by decide +kernel
theorem dX4_lead_18 : decode cX4_lead 18 = .ok (.iconst (-1), 1) := by decide +kernel
theorem dX4_lead_19 : decode cX4_lead 19 = .ok (.if_icmp .eq 12, 3) := by decide +kernel
theorem dX4_lead_22 : decode cX4_lead 22 = .ok (.iload 4, 2) := by decide +kernel
theorem dX4_lead_24 : decode cX4_lead 24 = .ok (.iconst 5, 1) := by decide +kernel
theorem dX4_lead_25 : decode cX4_lead 25 = .ok (.invokestatic 43, 3) := by decide +kernel
theorem dX4_lead_28 : decode cX4_lead 28 = .ok (.ifCond .eq 7, 3) := by decide +kernel
theorem dX4_lead_31 : decode cX4_lead 31 = .ok (.iconst 1, 1) := by decide +kernel
theorem dX4_lead_32 : decode cX4_lead 32 = .ok (.goto 4, 3) := by decide +kernel
theorem dX4_lead_35 : decode cX4_lead 35 = .ok (.iconst 0, 1) := by decide +kernel
theorem dX4_lead_36 : decode cX4_lead 36 = .ok (.istore 5, 2) := by decide +kernel
theorem dX4_lead_38 : decode cX4_lead 38 = .ok (.iload 5, 2) := by decide +kernel
theorem dX4_lead_40 : decode cX4_lead 40 = .ok (.ifCond .eq 25, 3) := by decide +kernel
theorem dX4_lead_43 : decode cX4_lead 43 = .ok (.aload_n 0, 1) := by decide +kernel
theorem dX4_lead_44 : decode cX4_lead 44 = .ok (.getfield 12, 3) := by decide +kernel
theorem dX4_lead_47 : decode cX4_lead 47 = .ok (.iload_n 1, 1) := by decide +kernel
theorem dX4_lead_48 : decode cX4_lead 48 = .ok (.iload_n 2, 1) := by decide +kernel
theorem dX4_lead_49 : decode cX4_lead 49 = .ok (.invokestatic 46, 3) := by decide +kernel
theorem dX4_lead_52 : decode cX4_lead 52 = .ok (.iload_n 3, 1) := by decide +kernel
theorem dX4_lead_53 : decode cX4_lead 53 = .ok (.iload 4, 2) := by decide +kernel
theorem dX4_lead_55 : decode cX4_lead 55 = .ok (.invokevirtual 50, 3) := by decide +kernel
theorem dX4_lead_58 : decode cX4_lead 58 = .ok (.ifCond .eq 7, 3) := by decide +kernel
theorem dX4_lead_61 : decode cX4_lead 61 = .ok (.iconst 1, 1) := by decide +kernel
theorem dX4_lead_62 : decode cX4_lead 62 = .ok (.goto 4, 3) := by decide +kernel
theorem dX4_lead_65 : decode cX4_lead 65 = .ok (.iconst 0, 1) := by decide +kernel
theorem dX4_lead_66 : decode cX4_lead 66 = .ok (.ireturn, 1) := by decide +kernel
set_option maxRecDepth 20000 in
theorem ggX4_mark_X4_isState : GoodIn wsX4_mark wsX4_isState := goodIn_r _ [5, 6, 7, 4, 8] (by decide +kernel) (by decide +kernel)
set_option maxRecDepth 20000 in
theorem gX4_mark_X4_isState : GoodIn wsX4_mark (va_wsS RX4 39 yX4_isState wsX4_isState) := goodIn_app (goodIn_of _ (by decide +kernel)) ggX4_mark_X4_isState
set_option maxRecDepth 20000 in
theorem ggX4_mark_X4_objectOf : GoodIn wsX4_mark wsX4_objectOf := goodIn_r _ [11] (by decide +kernel) (by decide +kernel)
set_option maxRecDepth 20000 in
theorem gX4_mark_X4_objectOf : GoodIn wsX4_mark (va_wsS RX4 46 yX4_objectOf wsX4_objectOf) := goodIn_app (goodIn_of _ (by decide +kernel)) ggX4_mark_X4_objectOf
set_option maxRecDepth 20000 in
theorem ggX4_mark_X2_setFinal : GoodIn wsX4_mark wsX2_setFinal := goodIn_r _ [16, 17, 7, 4, 8, 22, 23] (by decide +kernel) (by decide +kernel)
set_option maxRecDepth 20000 in
theorem gX4_mark_X2_setFinal : GoodIn wsX4_mark (wsV RX4 54 RX2 yX2_setFinal wsX2_setFinal) := goodIn_app (goodIn_of _ (by decide +kernel)) ggX4_mark_X2_setFinal
theorem dX4_mark_0 : decode cX4_mark 0 = .ok (.iload_n 1, 1) := by decide +kernel
theorem dX4_mark_1 : decode cX4_mark 1 = .ok (.iload_n 2, 1) := by decide +kernel
theorem dX4_mark_2 : decode cX4_mark 2 = .ok (.invokestatic 39, 3) := by decide +kernel
theorem dX4_mark_5 : decode cX4_mark 5 = .ok (.ifCond .eq 23, 3) := by decide +kernel
theorem dX4_mark_8 : decode cX4_mark 8 = .ok (.aload_n 0, 1) := by decide +kernel
theorem dX4_mark_9 : decode cX4_mark 9 = .ok (.getfield 12, 3) := by decide +kernel
theorem dX4_mark_12 : decode cX4_mark 12 = .ok (.iload_n 1, 1) := by decide +kernel
theorem dX4_mark_13 : decode cX4_mark 13 = .ok (.iload_n 2, 1) := by decide +kernel
theorem dX4_mark_14 : decode cX4_mark 14 = .ok (.invokestatic 46, 3) := by decide +kernel
theorem dX4_mark_17 : decode cX4_mark 17 = .ok (.iload_n 3, 1) := by decide +kernel
theorem dX4_mark_18 : decode cX4_mark 18 = .ok (.invokevirtual 54, 3) := by decide +kernel
theorem dX4_mark_21 : decode cX4_mark 21 = .ok (.ifCond .eq 7, 3) := by decide +kernel
theorem dX4_mark_24 : decode cX4_mark 24 = .ok (.iconst 1, 1) := by decide +kernel
theorem dX4_mark_25 : decode cX4_mark 25 = .ok (.goto 4, 3) := by decide +kernel
theorem dX4_mark_28 : decode cX4_mark 28 = .ok (.iconst 0, 1) := by decide +kernel
theorem dX4_mark_29 : decode cX4_mark 29 = .ok (.ireturn, 1) := by decide +kernel
set_option maxRecDepth 20000 in
theorem ggX4_make_X4_isVariable : GoodIn wsX4_make wsX4_isVariable := goodIn_r _ [5, 6, 7, 4, 8] (by decide +kernel) (by decide +kernel)
set_option maxRecDepth 20000 in
theorem gX4_make_X4_isVariable : GoodIn wsX4_make (va_wsS RX4 58 yX4_isVariable wsX4_isVariable) := goodIn_app (goodIn_of _ (by decide +kernel)) ggX4_make_X4_isVariable
set_option maxRecDepth 20000 in
theorem ggX4_make_X4_isBelow : GoodIn wsX4_make wsX4_isBelow := goodIn_r _ [8] (by decide +kernel) (by decide +kernel)
set_option maxRecDepth 20000 in
theorem gX4_make_X4_isBelow : GoodIn wsX4_make (va_wsS RX4 43 yX4_isBelow wsX4_isBelow) := goodIn_app (goodIn_of _ (by decide +kernel)) ggX4_make_X4_isBelow
set_option maxRecDepth 20000 in
theorem ggX4_make_X1_addSimple : GoodIn wsX4_make wsX1_addSimple := goodIn_r _ [13, 14, 15, 16, 17, 12, 18, 19, 20, 21, 22, 23, 28, 29, 30, 31, 32, 33, 34, 35, 36] (by decide +kernel) (by decide +kernel)
set_option maxRecDepth 20000 in
theorem gX4_make_X1_addSimple : GoodIn wsX4_make (wsV RX4 62 RX1 yX1_addSimple wsX1_addSimple) := goodIn_app (goodIn_of _ (by decide +kernel)) ggX4_make_X1_addSimple
theorem dX4_make_0 : decode cX4_make 0 = .ok (.iload_n 1, 1) := by decide +kernel
theorem dX4_make_1 : decode cX4_make 1 = .ok (.invokestatic 58, 3) := by decide +kernel
theorem dX4_make_4 : decode cX4_make 4 = .ok (.ifCond .eq 24, 3) := by decide +kernel
theorem dX4_make_7 : decode cX4_make 7 = .ok (.iload_n 2, 1) := by decide +kernel
theorem dX4_make_8 : decode cX4_make 8 = .ok (.iconst 3, 1) := by decide +kernel
theorem dX4_make_9 : decode cX4_make 9 = .ok (.invokestatic 43, 3) := by decide +kernel
theorem dX4_make_12 : decode cX4_make 12 = .ok (.ifCond .eq 16, 3) := by decide +kernel
theorem dX4_make_15 : decode cX4_make 15 = .ok (.aload_n 0, 1) := by decide +kernel
theorem dX4_make_16 : decode cX4_make 16 = .ok (.getfield 19, 3) := by decide +kernel
theorem dX4_make_19 : decode cX4_make 19 = .ok (.iconst 0, 1) := by decide +kernel
theorem dX4_make_20 : decode cX4_make 20 = .ok (.iload_n 1, 1) := by decide +kernel
theorem dX4_make_21 : decode cX4_make 21 = .ok (.iload_n 2, 1) := by decide +kernel
theorem dX4_make_22 : decode cX4_make 22 = .ok (.invokevirtual 62, 3) := by decide +kernel
theorem dX4_make_25 : decode cX4_make 25 = .ok (.goto 4, 3) := by decide +kernel
theorem dX4_make_28 : decode cX4_make 28 = .ok (.iconst (-1), 1) := by decide +kernel
theorem dX4_make_29 : decode cX4_make 29 = .ok (.ireturn, 1) := by decide +kernel
set_option maxRecDepth 20000 in
theorem ggX4_call_X4_isVariable : GoodIn wsX4_call wsX4_isVariable := goodIn_r _ [5, 6, 7, 4, 8] (by decide +kernel) (by decide +kernel)
set_option maxRecDepth 20000 in
theorem gX4_call_X4_isVariable : GoodIn wsX4_call (va_wsS RX4 58 yX4_isVariable wsX4_isVariable) := goodIn_app (goodIn_of _ (by decide +kernel)) ggX4_call_X4_isVariable
set_option maxRecDepth 20000 in
theorem ggX4_call_X4_isBelow : GoodIn wsX4_call wsX4_isBelow := goodIn_r _ [8] (by decide +kernel) (by decide +kernel)
set_option maxRecDepth 20000 in
theorem gX4_call_X4_isBelow : GoodIn wsX4_call (va_wsS RX4 43 yX4_isBelow wsX4_isBelow) := goodIn_app (goodIn_of _ (by decide +kernel)) ggX4_call_X4_isBelow
set_option maxRecDepth 20000 in
theorem ggX4_call_X1_addSimple : GoodIn wsX4_call wsX1_addSimple := goodIn_r _ [13, 14, 15, 16, 17, 12, 18, 19, 20, 21, 22, 23, 28, 29, 30, 31, 32, 33, 34, 35, 36] (by decide +kernel) (by decide +kernel)
set_option maxRecDepth 20000 in
theorem gX4_call_X1_addSimple : GoodIn wsX4_call (wsV RX4 62 RX1 yX1_addSimple wsX1_addSimple) := goodIn_app (goodIn_of _ (by decide +kernel)) ggX4_call_X1_addSimple
theorem dX4_call_0 : decode cX4_call 0 = .ok (.iload_n 1, 1) := by decide +kernel
theorem dX4_call_1 : decode cX4_call 1 = .ok (.invokestatic 58, 3) := by decide +kernel
theorem dX4_call_4 : decode cX4_call 4 = .ok (.ifCond .eq 24, 3) := by decide +kernel
theorem dX4_call_7 : decode cX4_call 7 = .ok (.iload_n 2, 1) := by decide +kernel
theorem dX4_call_8 : decode cX4_call 8 = .ok (.iconst 4, 1) := by decide +kernel
theorem dX4_call_9 : decode cX4_call 9 = .ok (.invokestatic 43, 3) := by decide +kernel
theorem dX4_call_12 : decode cX4_call 12 = .ok (.ifCond .eq 16, 3) := by decide +kernel
theorem dX4_call_15 : decode cX4_call 15 = .ok (.aload_n 0, 1) := by decide +kernel
theorem dX4_call_16 : decode cX4_call 16 = .ok (.getfield 19, 3) := by decide +kernel
theorem dX4_call_19 : decode cX4_call 19 = .ok (.iconst 1, 1) := by decide +kernel
theorem dX4_call_20 : decode cX4_call 20 = .ok (.iload_n 1, 1) := by decide +kernel
theorem dX4_call_21 : decode cX4_call 21 = .ok (.iload_n 2, 1) := by decide +kernel
theorem dX4_call_22 : decode cX4_call 22 = .ok (.invokevirtual 62, 3) := by decide +kernel
theorem dX4_call_25 : decode cX4_call 25 = .ok (.goto 4, 3) := by decide +kernel
theorem dX4_call_28 : decode cX4_call 28 = .ok (.iconst (-1), 1) := by decide +kernel
theorem dX4_call_29 : decode cX4_call 29 = .ok (.ireturn, 1) := by decide +kernel
set_option maxRecDepth 20000 in
theorem ggX4_move_X4_isVariable : GoodIn wsX4_move wsX4_isVariable := goodIn_r _ [5, 6, 7, 4, 8] (by decide +kernel) (by decide +kernel)
set_option maxRecDepth 20000 in
theorem gX4_move_X4_isVariable : GoodIn wsX4_move (va_wsS RX4 58 yX4_isVariable wsX4_isVariable) := goodIn_app (goodIn_of _ (by decide +kernel)) ggX4_move_X4_isVariable
set_option maxRecDepth 20000 in
theorem ggX4_move_X1_addSimple : GoodIn wsX4_move wsX1_addSimple := goodIn_r _ [13, 14, 15, 16, 17, 12, 18, 19, 20, 21, 22, 23, 28, 29, 30, 31, 32, 33, 34, 35, 36] (by decide +kernel) (by decide +kernel)
set_option maxRecDepth 20000 in
theorem gX4_move_X1_addSimple : GoodIn wsX4_move (wsV RX4 62 RX1 yX1_addSimple wsX1_addSimple) := goodIn_app (goodIn_of _ (by decide +kernel)) ggX4_move_X1_addSimple
theorem dX4_move_0 : decode cX4_move 0 = .ok (.iload_n 1, 1) := by decide +kernel
theorem dX4_move_1 : decode cX4_move 1 = .ok (.invokestatic 58, 3) := by decide +kernel
theorem dX4_move_4 : decode cX4_move 4 = .ok (.ifCond .eq 23, 3) := by decide +kernel
theorem dX4_move_7 : decode cX4_move 7 = .ok (.iload_n 2, 1) := by decide +kernel
theorem dX4_move_8 : decode cX4_move 8 = .ok (.invokestatic 58, 3) := by decide +kernel
theorem dX4_move_11 : decode cX4_move 11 = .ok (.ifCond .eq 16, 3) := by decide +kernel
theorem dX4_move_14 : decode cX4_move 14 = .ok (.aload_n 0, 1) := by decide +kernel
theorem dX4_move_15 : decode cX4_move 15 = .ok (.getfield 19, 3) := by decide +kernel
theorem dX4_move_18 : decode cX4_move 18 = .ok (.iconst 2, 1) := by decide +kernel
theorem dX4_move_19 : decode cX4_move 19 = .ok (.iload_n 1, 1) := by decide +kernel
theorem dX4_move_20 : decode cX4_move 20 = .ok (.iload_n 2, 1) := by decide +kernel
theorem dX4_move_21 : decode cX4_move 21 = .ok (.invokevirtual 62, 3) := by decide +kernel
theorem dX4_move_24 : decode cX4_move 24 = .ok (.goto 4, 3) := by decide +kernel
theorem dX4_move_27 : decode cX4_move 27 = .ok (.iconst (-1), 1) := by decide +kernel
theorem dX4_move_28 : decode cX4_move 28 = .ok (.ireturn, 1) := by decide +kernel
set_option maxRecDepth 20000 in
theorem ggX4_drop_X4_isVariable : GoodIn wsX4_drop wsX4_isVariable := goodIn_r _ [5, 6, 7, 4, 8] (by decide +kernel) (by decide +kernel)
set_option maxRecDepth 20000 in
theorem gX4_drop_X4_isVariable : GoodIn wsX4_drop (va_wsS RX4 58 yX4_isVariable wsX4_isVariable) := goodIn_app (goodIn_of _ (by decide +kernel)) ggX4_drop_X4_isVariable
set_option maxRecDepth 20000 in
theorem ggX4_drop_X1_addSimple : GoodIn wsX4_drop wsX1_addSimple := goodIn_r _ [13, 14, 15, 16, 17, 12, 18, 19, 20, 21, 22, 23, 28, 29, 30, 31, 32, 33, 34, 35, 36] (by decide +kernel) (by decide +kernel)
set_option maxRecDepth 20000 in
theorem gX4_drop_X1_addSimple : GoodIn wsX4_drop (wsV RX4 62 RX1 yX1_addSimple wsX1_addSimple) := goodIn_app (goodIn_of _ (by decide +kernel)) ggX4_drop_X1_addSimple
theorem dX4_drop_0 : decode cX4_drop 0 = .ok (.iload_n 1, 1) := by decide +kernel
theorem dX4_drop_1 : decode cX4_drop 1 = .ok (.invokestatic 58, 3) := by decide +kernel
theorem dX4_drop_4 : decode cX4_drop 4 = .ok (.ifCond .eq 16, 3) := by decide +kernel
theorem dX4_drop_7 : decode cX4_drop 7 = .ok (.aload_n 0, 1) := by decide +kernel
theorem dX4_drop_8 : decode cX4_drop 8 = .ok (.getfield 19, 3) := by decide +kernel
theorem dX4_drop_11 : decode cX4_drop 11 = .ok (.iconst 3, 1) := by decide +kernel
theorem dX4_drop_12 : decode cX4_drop 12 = .ok (.iload_n 1, 1) := by decide +kernel
theorem dX4_drop_13 : decode cX4_drop 13 = .ok (.iconst 0, 1) := by decide +kernel
theorem dX4_drop_14 : decode cX4_drop 14 = .ok (.invokevirtual 62, 3) := by decide +kernel
theorem dX4_drop_17 : decode cX4_drop 17 = .ok (.goto 4, 3) := by decide +kernel
theorem dX4_drop_20 : decode cX4_drop 20 = .ok (.iconst (-1), 1) := by decide +kernel
theorem dX4_drop_21 : decode cX4_drop 21 = .ok (.ireturn, 1) := by decide +kernel
set_option maxRecDepth 20000 in
theorem ggX4_choose_X1_addOpening : GoodIn wsX4_choose wsX1_addOpening := goodIn_r _ [6, 7, 8, 9, 10, 11, 12, 13, 5, 14, 15, 16, 17, 18, 23, 24, 25, 26, 27, 28, 29, 30, 31] (by decide +kernel) (by decide +kernel)
set_option maxRecDepth 20000 in
theorem gX4_choose_X1_addOpening : GoodIn wsX4_choose (wsV RX4 66 RX1 yX1_addOpening wsX1_addOpening) := goodIn_app (goodIn_of _ (by decide +kernel)) ggX4_choose_X1_addOpening
theorem dX4_choose_0 : decode cX4_choose 0 = .ok (.aload_n 0, 1) := by decide +kernel
theorem dX4_choose_1 : decode cX4_choose 1 = .ok (.getfield 19, 3) := by decide +kernel
theorem dX4_choose_4 : decode cX4_choose 4 = .ok (.iconst 4, 1) := by decide +kernel
theorem dX4_choose_5 : decode cX4_choose 5 = .ok (.invokevirtual 66, 3) := by decide +kernel
theorem dX4_choose_8 : decode cX4_choose 8 = .ok (.ireturn, 1) := by decide +kernel
set_option maxRecDepth 20000 in
theorem ggX4_otherwise_X1_beginElse : GoodIn wsX4_otherwise wsX1_beginElse := goodIn_r _ [6, 7, 8, 9, 10, 11, 12, 13, 14, 15, 5, 16, 17, 18, 19, 20, 21, 22, 23, 24, 25, 26, 27, 28, 29, 34, 35, 36, 37, 38, 39, 40, 41, 42] (by decide +kernel) (by decide +kernel)
set_option maxRecDepth 20000 in
theorem gX4_otherwise_X1_beginElse : GoodIn wsX4_otherwise (wsV RX4 70 RX1 yX1_beginElse wsX1_beginElse) := goodIn_app (goodIn_of _ (by decide +kernel)) ggX4_otherwise_X1_beginElse
theorem dX4_otherwise_0 : decode cX4_otherwise 0 = .ok (.aload_n 0, 1) := by decide +kernel
theorem dX4_otherwise_1 : decode cX4_otherwise 1 = .ok (.getfield 19, 3) := by decide +kernel
theorem dX4_otherwise_4 : decode cX4_otherwise 4 = .ok (.invokevirtual 70, 3) := by decide +kernel
theorem dX4_otherwise_7 : decode cX4_otherwise 7 = .ok (.ireturn, 1) := by decide +kernel
set_option maxRecDepth 20000 in
theorem ggX4_repeat_X1_addOpening : GoodIn wsX4_repeat wsX1_addOpening := goodIn_r _ [6, 7, 8, 9, 10, 11, 12, 13, 5, 14, 15, 16, 17, 18, 23, 24, 25, 26, 27, 28, 29, 30, 31] (by decide +kernel) (by decide +kernel)
set_option maxRecDepth 20000 in
theorem gX4_repeat_X1_addOpening : GoodIn wsX4_repeat (wsV RX4 66 RX1 yX1_addOpening wsX1_addOpening) := goodIn_app (goodIn_of _ (by decide +kernel)) ggX4_repeat_X1_addOpening
theorem dX4_repeat_0 : decode cX4_repeat 0 = .ok (.aload_n 0, 1) := by decide +kernel
theorem dX4_repeat_1 : decode cX4_repeat 1 = .ok (.getfield 19, 3) := by decide +kernel
theorem dX4_repeat_4 : decode cX4_repeat 4 = .ok (.bipush 7, 2) := by decide +kernel
theorem dX4_repeat_6 : decode cX4_repeat 6 = .ok (.invokevirtual 66, 3) := by decide +kernel
theorem dX4_repeat_9 : decode cX4_repeat 9 = .ok (.ireturn, 1) := by decide +kernel
set_option maxRecDepth 20000 in
theorem ggX4_end_X1_endBlock : GoodIn wsX4_end wsX1_endBlock := goodIn_r _ [6, 7, 8, 9, 10, 11, 12, 13, 14, 5, 15, 16, 17, 18, 19, 20, 21, 22, 23, 24, 25, 26, 27, 28, 29, 30, 31, 32, 33, 38, 39, 40, 41, 42, 43, 44, 45, 46] (by decide +kernel) (by decide +kernel)
set_option maxRecDepth 20000 in
theorem gX4_end_X1_endBlock : GoodIn wsX4_end (wsV RX4 74 RX1 yX1_endBlock wsX1_endBlock) := goodIn_app (goodIn_of _ (by decide +kernel)) ggX4_end_X1_endBlock
theorem dX4_end_0 : decode cX4_end 0 = .ok (.aload_n 0, 1) := by decide +kernel
theorem dX4_end_1 : decode cX4_end 1 = .ok (.getfield 19, 3) := by decide +kernel
theorem dX4_end_4 : decode cX4_end 4 = .ok (.invokevirtual 74, 3) := by decide +kernel
theorem dX4_end_7 : decode cX4_end 7 = .ok (.ireturn, 1) := by decide +kernel
set_option maxRecDepth 20000 in
theorem ggX4_clear_X1_removeAll : GoodIn wsX4_clear wsX1_removeAll := goodIn_r _ [6, 7, 8, 9, 14, 15, 16, 17, 18, 19, 20, 21, 22] (by decide +kernel) (by decide +kernel)
set_option maxRecDepth 20000 in
theorem gX4_clear_X1_removeAll : GoodIn wsX4_clear (wsV RX4 77 RX1 yX1_removeAll wsX1_removeAll) := goodIn_app (goodIn_of _ (by decide +kernel)) ggX4_clear_X1_removeAll
theorem dX4_clear_0 : decode cX4_clear 0 = .ok (.aload_n 0, 1) := by decide +kernel
theorem dX4_clear_1 : decode cX4_clear 1 = .ok (.getfield 19, 3) := by decide +kernel
theorem dX4_clear_4 : decode cX4_clear 4 = .ok (.invokevirtual 77, 3) := by decide +kernel
theorem dX4_clear_7 : decode cX4_clear 7 = .ok (.return_, 1) := by decide +kernel
theorem dX4_size_0 : decode cX4_size 0 = .ok (.aload_n 0, 1) := by decide +kernel
theorem dX4_size_1 : decode cX4_size 1 = .ok (.getfield 19, 3) := by decide +kernel
theorem dX4_size_4 : decode cX4_size 4 = .ok (.getfield 80, 3) := by decide +kernel
theorem dX4_size_7 : decode cX4_size 7 = .ok (.ireturn, 1) := by decide +kernel
set_option maxRecDepth 20000 in
theorem ggX4_check_X0_checkProgram : GoodIn wsX4_check wsX0_checkProgram := goodIn_r _ [6, 7, 8, 9, 10, 11, 12, 13, 14, 15, 16, 17, 18, 19, 20, 21, 22, 23, 5, 24, 25, 26, 27, 28, 29, 30, 31, 32, 33, 34, 35, 36, 37, 38, 39, 40, 41, 42, 43, 44, 45, 46, 47, 48, 49, 50, 51, 52, 53, 54, 55, 56, 57, 58, 59, 60, 61, 62, 63, 64, 65, 70, 71, 72, 73, 74, 75, 76, 77, 78, 79, 80, 81, 82, 83, 84, 85] (by decide +kernel) (by decide +kernel)
set_option maxRecDepth 20000 in
theorem gX4_check_X0_checkProgram : GoodIn wsX4_check (wsV RX4 84 RX0 yX0_checkProgram wsX0_checkProgram) := goodIn_app (goodIn_of _ (by decide +kernel)) ggX4_check_X0_checkProgram
theorem dX4_check_0 : decode cX4_check 0 = .ok (.aload_n 0, 1) := by decide +kernel
theorem dX4_check_1 : decode cX4_check 1 = .ok (.getfield 28, 3) := by decide +kernel
theorem dX4_check_4 : decode cX4_check 4 = .ok (.invokevirtual 84, 3) := by decide +kernel
theorem dX4_check_7 : decode cX4_check 7 = .ok (.ireturn, 1) := by decide +kernel
theorem dX4_faultAt_0 : decode cX4_faultAt 0 = .ok (.aload_n 0, 1) := by decide +kernel
theorem dX4_faultAt_1 : decode cX4_faultAt 1 = .ok (.getfield 28, 3) := by decide +kernel
theorem dX4_faultAt_4 : decode cX4_faultAt 4 = .ok (.getfield 88, 3) := by decide +kernel
theorem dX4_faultAt_7 : decode cX4_faultAt 7 = .ok (.ireturn, 1) := by decide +kernel
set_option maxRecDepth 20000 in
theorem ggX4_held_X0_heldBefore : GoodIn wsX4_held wsX0_heldBefore := goodIn_r _ [6, 7, 8, 9, 10, 22, 23, 24, 25, 26] (by decide +kernel) (by decide +kernel)
set_option maxRecDepth 20000 in
theorem gX4_held_X0_heldBefore : GoodIn wsX4_held (wsV RX4 91 RX0 yX0_heldBefore wsX0_heldBefore) := goodIn_app (goodIn_of _ (by decide +kernel)) ggX4_held_X0_heldBefore
set_option maxRecDepth 20000 in
theorem ggX4_held_X4_isVariable : GoodIn wsX4_held wsX4_isVariable := goodIn_r _ [13, 14, 8, 9, 10] (by decide +kernel) (by decide +kernel)
set_option maxRecDepth 20000 in
theorem gX4_held_X4_isVariable : GoodIn wsX4_held (va_wsS RX4 58 yX4_isVariable wsX4_isVariable) := goodIn_app (goodIn_of _ (by decide +kernel)) ggX4_held_X4_isVariable
set_option maxRecDepth 20000 in
theorem ggX4_held_X4_heldBy : GoodIn wsX4_held wsX4_heldBy := goodIn_r _ [17] (by decide +kernel) (by decide +kernel)
set_option maxRecDepth 20000 in
theorem gX4_held_X4_heldBy : GoodIn wsX4_held (va_wsS RX4 94 yX4_heldBy wsX4_heldBy) := goodIn_app (goodIn_of _ (by decide +kernel)) ggX4_held_X4_heldBy
theorem dX4_held_0 : decode cX4_held 0 = .ok (.aload_n 0, 1) := by decide +kernel
theorem dX4_held_1 : decode cX4_held 1 = .ok (.getfield 28, 3) := by decide +kernel
theorem dX4_held_4 : decode cX4_held 4 = .ok (.iload_n 1, 1) := by decide +kernel
theorem dX4_held_5 : decode cX4_held 5 = .ok (.invokevirtual 91, 3) := by decide +kernel
theorem dX4_held_8 : decode cX4_held 8 = .ok (.istore_n 3, 1) := by decide +kernel
theorem dX4_held_9 : decode cX4_held 9 = .ok (.iload_n 3, 1) := by decide +kernel
theorem dX4_held_10 : decode cX4_held 10 = .ok (.iconst (-1), 1) := by decide +kernel
theorem dX4_held_11 : decode cX4_held 11 = .ok (.if_icmp .eq 10, 3) := by decide +kernel
theorem dX4_held_14 : decode cX4_held 14 = .ok (.iload_n 2, 1) := by decide +kernel
theorem dX4_held_15 : decode cX4_held 15 = .ok (.invokestatic 58, 3) := by decide +kernel
theorem dX4_held_18 : decode cX4_held 18 = .ok (.ifCond .ne 8, 3) := by decide +kernel
theorem dX4_held_21 : decode cX4_held 21 = .ok (.bipush (-2), 2) := by decide +kernel
theorem dX4_held_23 : decode cX4_held 23 = .ok (.goto 8, 3) := by decide +kernel
theorem dX4_held_26 : decode cX4_held 26 = .ok (.iload_n 3, 1) := by decide +kernel
theorem dX4_held_27 : decode cX4_held 27 = .ok (.iload_n 2, 1) := by decide +kernel
theorem dX4_held_28 : decode cX4_held 28 = .ok (.invokestatic 94, 3) := by decide +kernel
theorem dX4_held_31 : decode cX4_held 31 = .ok (.ireturn, 1) := by decide +kernel
set_option maxRecDepth 20000 in
theorem ggX4_run_X1_hasOpenBlocks : GoodIn wsX4_run wsX1_hasOpenBlocks := goodIn_r _ [11, 12, 91, 92, 93, 94, 95, 96, 97, 98, 99] (by decide +kernel) (by decide +kernel)
set_option maxRecDepth 20000 in
theorem gX4_run_X1_hasOpenBlocks : GoodIn wsX4_run (wsV RX4 104 RX1 yX1_hasOpenBlocks wsX1_hasOpenBlocks) := goodIn_app (goodIn_of _ (by decide +kernel)) ggX4_run_X1_hasOpenBlocks
set_option maxRecDepth 20000 in
theorem ggX4_run_X3_runProgram : GoodIn wsX4_run wsX3_runProgram := goodIn_r _ [17, 18, 19, 20, 21, 22, 23, 24, 25, 26, 27, 28, 29, 10, 30, 31, 32, 33, 34, 35, 36, 37, 16, 38, 39, 40, 41, 42, 43, 44, 45, 46, 47, 48, 49, 50, 51, 52, 53, 54, 55, 56, 57, 58, 59, 60, 61, 62, 63, 64, 65, 66, 67, 68, 69, 70, 71, 72, 73, 74, 75, 76, 77, 78, 83, 84, 85, 86, 87, 88, 89, 90, 91, 92, 93, 94, 95, 96, 97, 98, 99, 100, 101] (by decide +kernel) (by decide +kernel)
set_option maxRecDepth 20000 in
theorem gX4_run_X3_runProgram : GoodIn wsX4_run (wsV RX4 109 RX3 yX3_runProgram wsX3_runProgram) := goodIn_app (goodIn_of _ (by decide +kernel)) ggX4_run_X3_runProgram
theorem dX4_run_0 : decode cX4_run 0 = .ok (.iload_n 2, 1) := by decide +kernel
theorem dX4_run_1 : decode cX4_run 1 = .ok (.ifCond .lt 9, 3) := by decide +kernel
theorem dX4_run_4 : decode cX4_run 4 = .ok (.iload_n 2, 1) := by decide +kernel
theorem dX4_run_5 : decode cX4_run 5 = .ok (.bipush 32, 2) := by decide +kernel
theorem dX4_run_7 : decode cX4_run 7 = .ok (.if_icmp .le 13, 3) := by decide +kernel
theorem dX4_run_10 : decode cX4_run 10 = .ok (.new 97, 3) := by decide +kernel
theorem dX4_run_13 : decode cX4_run 13 = .ok (.dup, 1) := by decide +kernel
theorem dX4_run_14 : decode cX4_run 14 = .ok (.ldc 99, 2) := by decide +kernel
theorem dX4_run_16 : decode cX4_run 16 = .ok (.invokespecial 101, 3) := by decide +kernel
theorem dX4_run_19 : decode cX4_run 19 = .ok (.athrow, 1) := by decide +kernel
theorem dX4_run_20 : decode cX4_run 20 = .ok (.aload_n 0, 1) := by decide +kernel
theorem dX4_run_21 : decode cX4_run 21 = .ok (.getfield 19, 3) := by decide +kernel
theorem dX4_run_24 : decode cX4_run 24 = .ok (.invokevirtual 104, 3) := by decide +kernel
theorem dX4_run_27 : decode cX4_run 27 = .ok (.ifCond .eq 13, 3) := by decide +kernel
theorem dX4_run_30 : decode cX4_run 30 = .ok (.new 97, 3) := by decide +kernel
theorem dX4_run_33 : decode cX4_run 33 = .ok (.dup, 1) := by decide +kernel
theorem dX4_run_34 : decode cX4_run 34 = .ok (.ldc 107, 2) := by decide +kernel
theorem dX4_run_36 : decode cX4_run 36 = .ok (.invokespecial 101, 3) := by decide +kernel
theorem dX4_run_39 : decode cX4_run 39 = .ok (.athrow, 1) := by decide +kernel
theorem dX4_run_40 : decode cX4_run 40 = .ok (.aload_n 0, 1) := by decide +kernel
theorem dX4_run_41 : decode cX4_run 41 = .ok (.getfield 35, 3) := by decide +kernel
theorem dX4_run_44 : decode cX4_run 44 = .ok (.iload_n 1, 1) := by decide +kernel
theorem dX4_run_45 : decode cX4_run 45 = .ok (.iload_n 2, 1) := by decide +kernel
theorem dX4_run_46 : decode cX4_run 46 = .ok (.invokevirtual 109, 3) := by decide +kernel
theorem dX4_run_49 : decode cX4_run 49 = .ok (.aload_n 0, 1) := by decide +kernel
theorem dX4_run_50 : decode cX4_run 50 = .ok (.getfield 35, 3) := by decide +kernel
theorem dX4_run_53 : decode cX4_run 53 = .ok (.getfield 113, 3) := by decide +kernel
theorem dX4_run_56 : decode cX4_run 56 = .ok (.ifCond .eq 13, 3) := by decide +kernel
theorem dX4_run_59 : decode cX4_run 59 = .ok (.new 116, 3) := by decide +kernel
theorem dX4_run_62 : decode cX4_run 62 = .ok (.dup, 1) := by decide +kernel
theorem dX4_run_63 : decode cX4_run 63 = .ok (.ldc 118, 2) := by decide +kernel
theorem dX4_run_65 : decode cX4_run 65 = .ok (.invokespecial 120, 3) := by decide +kernel
theorem dX4_run_68 : decode cX4_run 68 = .ok (.athrow, 1) := by decide +kernel
theorem dX4_run_69 : decode cX4_run 69 = .ok (.aload_n 0, 1) := by decide +kernel
theorem dX4_run_70 : decode cX4_run 70 = .ok (.getfield 35, 3) := by decide +kernel
theorem dX4_run_73 : decode cX4_run 73 = .ok (.getfield 121, 3) := by decide +kernel
theorem dX4_run_76 : decode cX4_run 76 = .ok (.ireturn, 1) := by decide +kernel
theorem dX4_runFault_0 : decode cX4_runFault 0 = .ok (.aload_n 0, 1) := by decide +kernel
theorem dX4_runFault_1 : decode cX4_runFault 1 = .ok (.getfield 35, 3) := by decide +kernel
theorem dX4_runFault_4 : decode cX4_runFault 4 = .ok (.getfield 113, 3) := by decide +kernel
theorem dX4_runFault_7 : decode cX4_runFault 7 = .ok (.ireturn, 1) := by decide +kernel
theorem dX4_runAt_0 : decode cX4_runAt 0 = .ok (.aload_n 0, 1) := by decide +kernel
theorem dX4_runAt_1 : decode cX4_runAt 1 = .ok (.getfield 35, 3) := by decide +kernel
theorem dX4_runAt_4 : decode cX4_runAt 4 = .ok (.getfield 124, 3) := by decide +kernel
theorem dX4_runAt_7 : decode cX4_runAt 7 = .ok (.ireturn, 1) := by decide +kernel
theorem dX4_steps_0 : decode cX4_steps 0 = .ok (.aload_n 0, 1) := by decide +kernel
theorem dX4_steps_1 : decode cX4_steps 1 = .ok (.getfield 35, 3) := by decide +kernel
theorem dX4_steps_4 : decode cX4_steps 4 = .ok (.getfield 121, 3) := by decide +kernel
theorem dX4_steps_7 : decode cX4_steps 7 = .ok (.ireturn, 1) := by decide +kernel
set_option maxRecDepth 20000 in
theorem ggX4_left_X4_isVariable : GoodIn wsX4_left wsX4_isVariable := goodIn_r _ [5, 6, 7, 4, 8] (by decide +kernel) (by decide +kernel)
set_option maxRecDepth 20000 in
theorem gX4_left_X4_isVariable : GoodIn wsX4_left (va_wsS RX4 58 yX4_isVariable wsX4_isVariable) := goodIn_app (goodIn_of _ (by decide +kernel)) ggX4_left_X4_isVariable
set_option maxRecDepth 20000 in
theorem ggX4_left_X4_heldBy : GoodIn wsX4_left wsX4_heldBy := goodIn_r _ [11] (by decide +kernel) (by decide +kernel)
set_option maxRecDepth 20000 in
theorem gX4_left_X4_heldBy : GoodIn wsX4_left (va_wsS RX4 94 yX4_heldBy wsX4_heldBy) := goodIn_app (goodIn_of _ (by decide +kernel)) ggX4_left_X4_heldBy
theorem dX4_left_0 : decode cX4_left 0 = .ok (.iload_n 1, 1) := by decide +kernel
theorem dX4_left_1 : decode cX4_left 1 = .ok (.invokestatic 58, 3) := by decide +kernel
theorem dX4_left_4 : decode cX4_left 4 = .ok (.ifCond .eq 17, 3) := by decide +kernel
theorem dX4_left_7 : decode cX4_left 7 = .ok (.aload_n 0, 1) := by decide +kernel
theorem dX4_left_8 : decode cX4_left 8 = .ok (.getfield 35, 3) := by decide +kernel
theorem dX4_left_11 : decode cX4_left 11 = .ok (.getfield 125, 3) := by decide +kernel
theorem dX4_left_14 : decode cX4_left 14 = .ok (.iload_n 1, 1) := by decide +kernel
theorem dX4_left_15 : decode cX4_left 15 = .ok (.invokestatic 94, 3) := by decide +kernel
theorem dX4_left_18 : decode cX4_left 18 = .ok (.goto 5, 3) := by decide +kernel
theorem dX4_left_21 : decode cX4_left 21 = .ok (.bipush (-2), 2) := by decide +kernel
theorem dX4_left_23 : decode cX4_left 23 = .ok (.ireturn, 1) := by decide +kernel
theorem dX4_isBelow_0 : decode cX4_isBelow 0 = .ok (.iload_n 0, 1) := by decide +kernel
theorem dX4_isBelow_1 : decode cX4_isBelow 1 = .ok (.ifCond .lt 12, 3) := by decide +kernel
theorem dX4_isBelow_4 : decode cX4_isBelow 4 = .ok (.iload_n 0, 1) := by decide +kernel
theorem dX4_isBelow_5 : decode cX4_isBelow 5 = .ok (.iload_n 1, 1) := by decide +kernel
theorem dX4_isBelow_6 : decode cX4_isBelow 6 = .ok (.if_icmp .ge 7, 3) := by decide +kernel
theorem dX4_isBelow_9 : decode cX4_isBelow 9 = .ok (.iconst 1, 1) := by decide +kernel
theorem dX4_isBelow_10 : decode cX4_isBelow 10 = .ok (.goto 4, 3) := by decide +kernel
theorem dX4_isBelow_13 : decode cX4_isBelow 13 = .ok (.iconst 0, 1) := by decide +kernel
theorem dX4_isBelow_14 : decode cX4_isBelow 14 = .ok (.ireturn, 1) := by decide +kernel
set_option maxRecDepth 20000 in
theorem ggX4_isVariable_X4_isBelow : GoodIn wsX4_isVariable wsX4_isBelow := goodIn_r _ [4] (by decide +kernel) (by decide +kernel)
set_option maxRecDepth 20000 in
theorem gX4_isVariable_X4_isBelow : GoodIn wsX4_isVariable (va_wsS RX4 43 yX4_isBelow wsX4_isBelow) := goodIn_app (goodIn_of _ (by decide +kernel)) ggX4_isVariable_X4_isBelow
theorem dX4_isVariable_0 : decode cX4_isVariable 0 = .ok (.iload_n 0, 1) := by decide +kernel
theorem dX4_isVariable_1 : decode cX4_isVariable 1 = .ok (.iconst 4, 1) := by decide +kernel
theorem dX4_isVariable_2 : decode cX4_isVariable 2 = .ok (.invokestatic 43, 3) := by decide +kernel
theorem dX4_isVariable_5 : decode cX4_isVariable 5 = .ok (.ireturn, 1) := by decide +kernel
set_option maxRecDepth 20000 in
theorem ggX4_isState_X4_isBelow : GoodIn wsX4_isState wsX4_isBelow := goodIn_r _ [4] (by decide +kernel) (by decide +kernel)
set_option maxRecDepth 20000 in
theorem gX4_isState_X4_isBelow : GoodIn wsX4_isState (va_wsS RX4 43 yX4_isBelow wsX4_isBelow) := goodIn_app (goodIn_of _ (by decide +kernel)) ggX4_isState_X4_isBelow
theorem dX4_isState_0 : decode cX4_isState 0 = .ok (.iload_n 0, 1) := by decide +kernel
theorem dX4_isState_1 : decode cX4_isState 1 = .ok (.iconst 3, 1) := by decide +kernel
theorem dX4_isState_2 : decode cX4_isState 2 = .ok (.invokestatic 43, 3) := by decide +kernel
theorem dX4_isState_5 : decode cX4_isState 5 = .ok (.ifCond .eq 15, 3) := by decide +kernel
theorem dX4_isState_8 : decode cX4_isState 8 = .ok (.iload_n 1, 1) := by decide +kernel
theorem dX4_isState_9 : decode cX4_isState 9 = .ok (.iconst 5, 1) := by decide +kernel
theorem dX4_isState_10 : decode cX4_isState 10 = .ok (.invokestatic 43, 3) := by decide +kernel
theorem dX4_isState_13 : decode cX4_isState 13 = .ok (.ifCond .eq 7, 3) := by decide +kernel
theorem dX4_isState_16 : decode cX4_isState 16 = .ok (.iconst 1, 1) := by decide +kernel
theorem dX4_isState_17 : decode cX4_isState 17 = .ok (.goto 4, 3) := by decide +kernel
theorem dX4_isState_20 : decode cX4_isState 20 = .ok (.iconst 0, 1) := by decide +kernel
theorem dX4_isState_21 : decode cX4_isState 21 = .ok (.ireturn, 1) := by decide +kernel
theorem dX4_heldBy_0 : decode cX4_heldBy 0 = .ok (.iload_n 0, 1) := by decide +kernel
theorem dX4_heldBy_1 : decode cX4_heldBy 1 = .ok (.iconst 5, 1) := by decide +kernel
theorem dX4_heldBy_2 : decode cX4_heldBy 2 = .ok (.iload_n 1, 1) := by decide +kernel
theorem dX4_heldBy_3 : decode cX4_heldBy 3 = .ok (.imul, 1) := by decide +kernel
theorem dX4_heldBy_4 : decode cX4_heldBy 4 = .ok (.iushr, 1) := by decide +kernel
theorem dX4_heldBy_5 : decode cX4_heldBy 5 = .ok (.bipush 31, 2) := by decide +kernel
theorem dX4_heldBy_7 : decode cX4_heldBy 7 = .ok (.iand, 1) := by decide +kernel
theorem dX4_heldBy_8 : decode cX4_heldBy 8 = .ok (.iconst 1, 1) := by decide +kernel
theorem dX4_heldBy_9 : decode cX4_heldBy 9 = .ok (.isub, 1) := by decide +kernel
theorem dX4_heldBy_10 : decode cX4_heldBy 10 = .ok (.ireturn, 1) := by decide +kernel
theorem dX4_withHeld_0 : decode cX4_withHeld 0 = .ok (.iconst 5, 1) := by decide +kernel
theorem dX4_withHeld_1 : decode cX4_withHeld 1 = .ok (.iload_n 1, 1) := by decide +kernel
theorem dX4_withHeld_2 : decode cX4_withHeld 2 = .ok (.imul, 1) := by decide +kernel
theorem dX4_withHeld_3 : decode cX4_withHeld 3 = .ok (.istore_n 3, 1) := by decide +kernel
theorem dX4_withHeld_4 : decode cX4_withHeld 4 = .ok (.iload_n 0, 1) := by decide +kernel
theorem dX4_withHeld_5 : decode cX4_withHeld 5 = .ok (.bipush 31, 2) := by decide +kernel
theorem dX4_withHeld_7 : decode cX4_withHeld 7 = .ok (.iload_n 3, 1) := by decide +kernel
theorem dX4_withHeld_8 : decode cX4_withHeld 8 = .ok (.ishl, 1) := by decide +kernel
theorem dX4_withHeld_9 : decode cX4_withHeld 9 = .ok (.iconst (-1), 1) := by decide +kernel
theorem dX4_withHeld_10 : decode cX4_withHeld 10 = .ok (.ixor, 1) := by decide +kernel
theorem dX4_withHeld_11 : decode cX4_withHeld 11 = .ok (.iand, 1) := by decide +kernel
theorem dX4_withHeld_12 : decode cX4_withHeld 12 = .ok (.iload_n 2, 1) := by decide +kernel
theorem dX4_withHeld_13 : decode cX4_withHeld 13 = .ok (.iconst 1, 1) := by decide +kernel
theorem dX4_withHeld_14 : decode cX4_withHeld 14 = .ok (.iadd, 1) := by decide +kernel
theorem dX4_withHeld_15 : decode cX4_withHeld 15 = .ok (.iload_n 3, 1) := by decide +kernel
theorem dX4_withHeld_16 : decode cX4_withHeld 16 = .ok (.ishl, 1) := by decide +kernel
theorem dX4_withHeld_17 : decode cX4_withHeld 17 = .ok (.ior, 1) := by decide +kernel
theorem dX4_withHeld_18 : decode cX4_withHeld 18 = .ok (.ireturn, 1) := by decide +kernel
theorem dX4_objectOf_0 : decode cX4_objectOf 0 = .ok (.bipush 8, 2) := by decide +kernel
theorem dX4_objectOf_2 : decode cX4_objectOf 2 = .ok (.iload_n 0, 1) := by decide +kernel
theorem dX4_objectOf_3 : decode cX4_objectOf 3 = .ok (.imul, 1) := by decide +kernel
theorem dX4_objectOf_4 : decode cX4_objectOf 4 = .ok (.iload_n 1, 1) := by decide +kernel
theorem dX4_objectOf_5 : decode cX4_objectOf 5 = .ok (.iadd, 1) := by decide +kernel
theorem dX4_objectOf_6 : decode cX4_objectOf 6 = .ok (.ireturn, 1) := by decide +kernel
theorem dX4_protocolOf_0 : decode cX4_protocolOf 0 = .ok (.iload_n 0, 1) := by decide +kernel
theorem dX4_protocolOf_1 : decode cX4_protocolOf 1 = .ok (.iconst 3, 1) := by decide +kernel
theorem dX4_protocolOf_2 : decode cX4_protocolOf 2 = .ok (.ishr, 1) := by decide +kernel
theorem dX4_protocolOf_3 : decode cX4_protocolOf 3 = .ok (.ireturn, 1) := by decide +kernel
