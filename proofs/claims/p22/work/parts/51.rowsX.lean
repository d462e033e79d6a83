set_option maxRecDepth 20000 in
theorem ggX5_init_X3_init : GoodIn wsX5_init wsX3_init := goodIn_r _ [10, 11, 2, 3, 12, 13, 14, 15, 16, 17, 18, 19, 20, 21, 22, 23, 24, 25, 26, 27, 28, 29, 30, 31, 32, 33, 34, 35, 36, 37, 38, 39, 40, 41, 42, 43, 44, 45, 46, 47, 48, 49, 50, 51, 52, 53, 54, 55, 56, 57, 58, 59, 60, 61, 62, 63, 64, 65, 66, 67, 68, 69, 82, 83, 70, 71, 72, 73, 74, 75, 76, 77, 78, 79, 84, 85, 86, 87, 88, 89, 90, 91, 92, 93, 94, 95, 96, 97, 98, 99, 100, 101, 102, 103] (by decide +kernel) (by decide +kernel)
set_option maxRecDepth 20000 in
theorem gX5_init_X3_init_n9 : GoodIn wsX5_init (wsX3_init) := ggX5_init_X3_init
theorem dX5_init_0 : decode cX5_init 0 = .ok (.aload_n 0, 1) := by decide +kernel
theorem dX5_init_1 : decode cX5_init 1 = .ok (.invokespecial 1, 3) := by decide +kernel
theorem dX5_init_4 : decode cX5_init 4 = .ok (.aload_n 0, 1) := by decide +kernel
theorem dX5_init_5 : decode cX5_init 5 = .ok (.new 7, 3) := by decide +kernel
theorem dX5_init_8 : decode cX5_init 8 = .ok (.dup, 1) := by decide +kernel
theorem dX5_init_9 : decode cX5_init 9 = .ok (.invokespecial 9, 3) := by decide +kernel
theorem dX5_init_12 : decode cX5_init 12 = .ok (.putfield 10, 3) := by decide +kernel
theorem dX5_init_15 : decode cX5_init 15 = .ok (.aload_n 0, 1) := by decide +kernel
theorem dX5_init_16 : decode cX5_init 16 = .ok (.new 7, 3) := by decide +kernel
theorem dX5_init_19 : decode cX5_init 19 = .ok (.dup, 1) := by decide +kernel
theorem dX5_init_20 : decode cX5_init 20 = .ok (.invokespecial 9, 3) := by decide +kernel
theorem dX5_init_23 : decode cX5_init 23 = .ok (.putfield 16, 3) := by decide +kernel
theorem dX5_init_26 : decode cX5_init 26 = .ok (.return_, 1) := by decide +kernel
set_option maxRecDepth 20000 in
theorem ggX5_beginTides_X5_isWithin : GoodIn wsX5_beginTides wsX5_isWithin := goodIn_r _ [9] (by decide +kernel) (by decide +kernel)
set_option maxRecDepth 20000 in
theorem gX5_beginTides_X5_isWithin : GoodIn wsX5_beginTides (va_wsS RX5 19 yX5_isWithin wsX5_isWithin) := goodIn_app (goodIn_of _ (by decide +kernel)) ggX5_beginTides_X5_isWithin
set_option maxRecDepth 20000 in
theorem ggX5_beginTides_X4_begin : GoodIn wsX5_beginTides wsX4_begin := goodIn_r _ [14, 15, 16, 29, 30] (by decide +kernel) (by decide +kernel)
set_option maxRecDepth 20000 in
theorem gX5_beginTides_X4_begin : GoodIn wsX5_beginTides (wsV RX5 40 RX4 yX4_begin wsX4_begin) := goodIn_app (goodIn_of _ (by decide +kernel)) ggX5_beginTides_X4_begin
theorem dX5_beginTides_0 : decode cX5_beginTides 0 = .ok (.iload_n 1, 1) := by decide +kernel
theorem dX5_beginTides_1 : decode cX5_beginTides 1 = .ok (.iconst 0, 1) := by decide +kernel
theorem dX5_beginTides_2 : decode cX5_beginTides 2 = .ok (.bipush 99, 2) := by decide +kernel
theorem dX5_beginTides_4 : decode cX5_beginTides 4 = .ok (.invokestatic 19, 3) := by decide +kernel
theorem dX5_beginTides_7 : decode cX5_beginTides 7 = .ok (.ifCond .ne 13, 3) := by decide +kernel
theorem dX5_beginTides_10 : decode cX5_beginTides 10 = .ok (.new 23, 3) := by decide +kernel
theorem dX5_beginTides_13 : decode cX5_beginTides 13 = .ok (.dup, 1) := by decide +kernel
theorem dX5_beginTides_14 : decode cX5_beginTides 14 = .ok (.ldc 25, 2) := by decide +kernel
theorem dX5_beginTides_16 : decode cX5_beginTides 16 = .ok (.invokespecial 27, 3) := by decide +kernel
theorem dX5_beginTides_19 : decode cX5_beginTides 19 = .ok (.athrow, 1) := by decide +kernel
theorem dX5_beginTides_20 : decode cX5_beginTides 20 = .ok (.aload_n 0, 1) := by decide +kernel
theorem dX5_beginTides_21 : decode cX5_beginTides 21 = .ok (.getfield 10, 3) := by decide +kernel
theorem dX5_beginTides_24 : decode cX5_beginTides 24 = .ok (.getfield 30, 3) := by decide +kernel
theorem dX5_beginTides_27 : decode cX5_beginTides 27 = .ok (.getfield 34, 3) := by decide +kernel
theorem dX5_beginTides_30 : decode cX5_beginTides 30 = .ok (.istore_n 2, 1) := by decide +kernel
theorem dX5_beginTides_31 : decode cX5_beginTides 31 = .ok (.aload_n 0, 1) := by decide +kernel
theorem dX5_beginTides_32 : decode cX5_beginTides 32 = .ok (.getfield 10, 3) := by decide +kernel
theorem dX5_beginTides_35 : decode cX5_beginTides 35 = .ok (.getfield 30, 3) := by decide +kernel
theorem dX5_beginTides_38 : decode cX5_beginTides 38 = .ok (.iload_n 1, 1) := by decide +kernel
theorem dX5_beginTides_39 : decode cX5_beginTides 39 = .ok (.invokevirtual 40, 3) := by decide +kernel
theorem dX5_beginTides_42 : decode cX5_beginTides 42 = .ok (.iload_n 2, 1) := by decide +kernel
theorem dX5_beginTides_43 : decode cX5_beginTides 43 = .ok (.ireturn, 1) := by decide +kernel
set_option maxRecDepth 20000 in
theorem ggX5_addTide_X5_isWithin : GoodIn wsX5_addTide wsX5_isWithin := goodIn_r _ [11] (by decide +kernel) (by decide +kernel)
set_option maxRecDepth 20000 in
theorem gX5_addTide_X5_isWithin : GoodIn wsX5_addTide (va_wsS RX5 19 yX5_isWithin wsX5_isWithin) := goodIn_app (goodIn_of _ (by decide +kernel)) ggX5_addTide_X5_isWithin
set_option maxRecDepth 20000 in
theorem ggX5_addTide_X4_append : GoodIn wsX5_addTide wsX4_append := goodIn_r _ [16, 17, 18, 31, 32] (by decide +kernel) (by decide +kernel)
set_option maxRecDepth 20000 in
theorem gX5_addTide_X4_append : GoodIn wsX5_addTide (wsV RX5 49 RX4 yX4_append wsX4_append) := goodIn_app (goodIn_of _ (by decide +kernel)) ggX5_addTide_X4_append
theorem dX5_addTide_0 : decode cX5_addTide 0 = .ok (.iload_n 1, 1) := by decide +kernel
theorem dX5_addTide_1 : decode cX5_addTide 1 = .ok (.iconst 0, 1) := by decide +kernel
theorem dX5_addTide_2 : decode cX5_addTide 2 = .ok (.bipush 99, 2) := by decide +kernel
theorem dX5_addTide_4 : decode cX5_addTide 4 = .ok (.invokestatic 19, 3) := by decide +kernel
theorem dX5_addTide_7 : decode cX5_addTide 7 = .ok (.ifCond .ne 13, 3) := by decide +kernel
theorem dX5_addTide_10 : decode cX5_addTide 10 = .ok (.new 23, 3) := by decide +kernel
theorem dX5_addTide_13 : decode cX5_addTide 13 = .ok (.dup, 1) := by decide +kernel
theorem dX5_addTide_14 : decode cX5_addTide 14 = .ok (.ldc 25, 2) := by decide +kernel
theorem dX5_addTide_16 : decode cX5_addTide 16 = .ok (.invokespecial 27, 3) := by decide +kernel
theorem dX5_addTide_19 : decode cX5_addTide 19 = .ok (.athrow, 1) := by decide +kernel
theorem dX5_addTide_20 : decode cX5_addTide 20 = .ok (.aload_n 0, 1) := by decide +kernel
theorem dX5_addTide_21 : decode cX5_addTide 21 = .ok (.getfield 10, 3) := by decide +kernel
theorem dX5_addTide_24 : decode cX5_addTide 24 = .ok (.getfield 30, 3) := by decide +kernel
theorem dX5_addTide_27 : decode cX5_addTide 27 = .ok (.getfield 34, 3) := by decide +kernel
theorem dX5_addTide_30 : decode cX5_addTide 30 = .ok (.bipush 30, 2) := by decide +kernel
theorem dX5_addTide_32 : decode cX5_addTide 32 = .ok (.if_icmp .lt 13, 3) := by decide +kernel
theorem dX5_addTide_35 : decode cX5_addTide 35 = .ok (.new 44, 3) := by decide +kernel
theorem dX5_addTide_38 : decode cX5_addTide 38 = .ok (.dup, 1) := by decide +kernel
theorem dX5_addTide_39 : decode cX5_addTide 39 = .ok (.ldc 46, 2) := by decide +kernel
theorem dX5_addTide_41 : decode cX5_addTide 41 = .ok (.invokespecial 48, 3) := by decide +kernel
theorem dX5_addTide_44 : decode cX5_addTide 44 = .ok (.athrow, 1) := by decide +kernel
theorem dX5_addTide_45 : decode cX5_addTide 45 = .ok (.aload_n 0, 1) := by decide +kernel
theorem dX5_addTide_46 : decode cX5_addTide 46 = .ok (.getfield 10, 3) := by decide +kernel
theorem dX5_addTide_49 : decode cX5_addTide 49 = .ok (.getfield 30, 3) := by decide +kernel
theorem dX5_addTide_52 : decode cX5_addTide 52 = .ok (.iload_n 1, 1) := by decide +kernel
theorem dX5_addTide_53 : decode cX5_addTide 53 = .ok (.invokevirtual 49, 3) := by decide +kernel
theorem dX5_addTide_56 : decode cX5_addTide 56 = .ok (.aload_n 0, 1) := by decide +kernel
theorem dX5_addTide_57 : decode cX5_addTide 57 = .ok (.getfield 10, 3) := by decide +kernel
theorem dX5_addTide_60 : decode cX5_addTide 60 = .ok (.getfield 30, 3) := by decide +kernel
theorem dX5_addTide_63 : decode cX5_addTide 63 = .ok (.getfield 34, 3) := by decide +kernel
theorem dX5_addTide_66 : decode cX5_addTide 66 = .ok (.ireturn, 1) := by decide +kernel
set_option maxRecDepth 20000 in
theorem ggX5_tide_X4_heightIn : GoodIn wsX5_tide wsX4_heightIn := goodIn_r _ [9, 10, 11, 12, 13, 14, 15, 28, 29] (by decide +kernel) (by decide +kernel)
set_option maxRecDepth 20000 in
theorem gX5_tide_X4_heightIn : GoodIn wsX5_tide (wsV RX5 54 RX4 yX4_heightIn wsX4_heightIn) := goodIn_app (goodIn_of _ (by decide +kernel)) ggX5_tide_X4_heightIn
theorem dX5_tide_0 : decode cX5_tide 0 = .ok (.iload_n 1, 1) := by decide +kernel
theorem dX5_tide_1 : decode cX5_tide 1 = .ok (.ifCond .ge 13, 3) := by decide +kernel
theorem dX5_tide_4 : decode cX5_tide 4 = .ok (.new 23, 3) := by decide +kernel
theorem dX5_tide_7 : decode cX5_tide 7 = .ok (.dup, 1) := by decide +kernel
theorem dX5_tide_8 : decode cX5_tide 8 = .ok (.ldc 52, 2) := by decide +kernel
theorem dX5_tide_10 : decode cX5_tide 10 = .ok (.invokespecial 27, 3) := by decide +kernel
theorem dX5_tide_13 : decode cX5_tide 13 = .ok (.athrow, 1) := by decide +kernel
theorem dX5_tide_14 : decode cX5_tide 14 = .ok (.aload_n 0, 1) := by decide +kernel
theorem dX5_tide_15 : decode cX5_tide 15 = .ok (.getfield 10, 3) := by decide +kernel
theorem dX5_tide_18 : decode cX5_tide 18 = .ok (.getfield 30, 3) := by decide +kernel
theorem dX5_tide_21 : decode cX5_tide 21 = .ok (.iload_n 1, 1) := by decide +kernel
theorem dX5_tide_22 : decode cX5_tide 22 = .ok (.invokevirtual 54, 3) := by decide +kernel
theorem dX5_tide_25 : decode cX5_tide 25 = .ok (.ireturn, 1) := by decide +kernel
set_option maxRecDepth 20000 in
theorem ggX5_addBin_X5_isWithin : GoodIn wsX5_addBin wsX5_isWithin := goodIn_r _ [11] (by decide +kernel) (by decide +kernel)
set_option maxRecDepth 20000 in
theorem gX5_addBin_X5_isWithin : GoodIn wsX5_addBin (va_wsS RX5 19 yX5_isWithin wsX5_isWithin) := goodIn_app (goodIn_of _ (by decide +kernel)) ggX5_addBin_X5_isWithin
set_option maxRecDepth 20000 in
theorem ggX5_addBin_X0_append : GoodIn wsX5_addBin wsX0_append := goodIn_r _ [16, 17, 18, 19, 20, 33, 34, 35, 36] (by decide +kernel) (by decide +kernel)
set_option maxRecDepth 20000 in
theorem gX5_addBin_X0_append : GoodIn wsX5_addBin (wsV RX5 69 RX0 yX0_append wsX0_append) := goodIn_app (goodIn_of _ (by decide +kernel)) ggX5_addBin_X0_append
theorem dX5_addBin_0 : decode cX5_addBin 0 = .ok (.iload_n 1, 1) := by decide +kernel
theorem dX5_addBin_1 : decode cX5_addBin 1 = .ok (.iconst 0, 1) := by decide +kernel
theorem dX5_addBin_2 : decode cX5_addBin 2 = .ok (.bipush 99, 2) := by decide +kernel
theorem dX5_addBin_4 : decode cX5_addBin 4 = .ok (.invokestatic 19, 3) := by decide +kernel
theorem dX5_addBin_7 : decode cX5_addBin 7 = .ok (.ifCond .eq 13, 3) := by decide +kernel
theorem dX5_addBin_10 : decode cX5_addBin 10 = .ok (.iload_n 2, 1) := by decide +kernel
theorem dX5_addBin_11 : decode cX5_addBin 11 = .ok (.iconst 1, 1) := by decide +kernel
theorem dX5_addBin_12 : decode cX5_addBin 12 = .ok (.bipush 20, 2) := by decide +kernel
theorem dX5_addBin_14 : decode cX5_addBin 14 = .ok (.invokestatic 19, 3) := by decide +kernel
theorem dX5_addBin_17 : decode cX5_addBin 17 = .ok (.ifCond .ne 13, 3) := by decide +kernel
theorem dX5_addBin_20 : decode cX5_addBin 20 = .ok (.new 23, 3) := by decide +kernel
theorem dX5_addBin_23 : decode cX5_addBin 23 = .ok (.dup, 1) := by decide +kernel
theorem dX5_addBin_24 : decode cX5_addBin 24 = .ok (.ldc 58, 2) := by decide +kernel
theorem dX5_addBin_26 : decode cX5_addBin 26 = .ok (.invokespecial 27, 3) := by decide +kernel
theorem dX5_addBin_29 : decode cX5_addBin 29 = .ok (.athrow, 1) := by decide +kernel
theorem dX5_addBin_30 : decode cX5_addBin 30 = .ok (.aload_n 0, 1) := by decide +kernel
theorem dX5_addBin_31 : decode cX5_addBin 31 = .ok (.getfield 10, 3) := by decide +kernel
theorem dX5_addBin_34 : decode cX5_addBin 34 = .ok (.getfield 60, 3) := by decide +kernel
theorem dX5_addBin_37 : decode cX5_addBin 37 = .ok (.getfield 64, 3) := by decide +kernel
theorem dX5_addBin_40 : decode cX5_addBin 40 = .ok (.bipush 10, 2) := by decide +kernel
theorem dX5_addBin_42 : decode cX5_addBin 42 = .ok (.if_icmp .lt 13, 3) := by decide +kernel
theorem dX5_addBin_45 : decode cX5_addBin 45 = .ok (.new 44, 3) := by decide +kernel
theorem dX5_addBin_48 : decode cX5_addBin 48 = .ok (.dup, 1) := by decide +kernel
theorem dX5_addBin_49 : decode cX5_addBin 49 = .ok (.ldc 67, 2) := by decide +kernel
theorem dX5_addBin_51 : decode cX5_addBin 51 = .ok (.invokespecial 48, 3) := by decide +kernel
theorem dX5_addBin_54 : decode cX5_addBin 54 = .ok (.athrow, 1) := by decide +kernel
theorem dX5_addBin_55 : decode cX5_addBin 55 = .ok (.aload_n 0, 1) := by decide +kernel
theorem dX5_addBin_56 : decode cX5_addBin 56 = .ok (.getfield 10, 3) := by decide +kernel
theorem dX5_addBin_59 : decode cX5_addBin 59 = .ok (.getfield 60, 3) := by decide +kernel
theorem dX5_addBin_62 : decode cX5_addBin 62 = .ok (.iload_n 1, 1) := by decide +kernel
theorem dX5_addBin_63 : decode cX5_addBin 63 = .ok (.iload_n 2, 1) := by decide +kernel
theorem dX5_addBin_64 : decode cX5_addBin 64 = .ok (.invokevirtual 69, 3) := by decide +kernel
theorem dX5_addBin_67 : decode cX5_addBin 67 = .ok (.ireturn, 1) := by decide +kernel
set_option maxRecDepth 20000 in
theorem ggX5_setCrew_X5_isWithin : GoodIn wsX5_setCrew wsX5_isWithin := goodIn_r _ [9] (by decide +kernel) (by decide +kernel)
set_option maxRecDepth 20000 in
theorem gX5_setCrew_X5_isWithin : GoodIn wsX5_setCrew (va_wsS RX5 19 yX5_isWithin wsX5_isWithin) := goodIn_app (goodIn_of _ (by decide +kernel)) ggX5_setCrew_X5_isWithin
theorem dX5_setCrew_0 : decode cX5_setCrew 0 = .ok (.iload_n 1, 1) := by decide +kernel
theorem dX5_setCrew_1 : decode cX5_setCrew 1 = .ok (.iconst 0, 1) := by decide +kernel
theorem dX5_setCrew_2 : decode cX5_setCrew 2 = .ok (.bipush 9, 2) := by decide +kernel
theorem dX5_setCrew_4 : decode cX5_setCrew 4 = .ok (.invokestatic 19, 3) := by decide +kernel
theorem dX5_setCrew_7 : decode cX5_setCrew 7 = .ok (.ifCond .eq 13, 3) := by decide +kernel
theorem dX5_setCrew_10 : decode cX5_setCrew 10 = .ok (.iload_n 2, 1) := by decide +kernel
theorem dX5_setCrew_11 : decode cX5_setCrew 11 = .ok (.iconst 0, 1) := by decide +kernel
theorem dX5_setCrew_12 : decode cX5_setCrew 12 = .ok (.bipush 9, 2) := by decide +kernel
theorem dX5_setCrew_14 : decode cX5_setCrew 14 = .ok (.invokestatic 19, 3) := by decide +kernel
theorem dX5_setCrew_17 : decode cX5_setCrew 17 = .ok (.ifCond .ne 13, 3) := by decide +kernel
theorem dX5_setCrew_20 : decode cX5_setCrew 20 = .ok (.new 23, 3) := by decide +kernel
theorem dX5_setCrew_23 : decode cX5_setCrew 23 = .ok (.dup, 1) := by decide +kernel
theorem dX5_setCrew_24 : decode cX5_setCrew 24 = .ok (.ldc 72, 2) := by decide +kernel
theorem dX5_setCrew_26 : decode cX5_setCrew 26 = .ok (.invokespecial 27, 3) := by decide +kernel
theorem dX5_setCrew_29 : decode cX5_setCrew 29 = .ok (.athrow, 1) := by decide +kernel
theorem dX5_setCrew_30 : decode cX5_setCrew 30 = .ok (.aload_n 0, 1) := by decide +kernel
theorem dX5_setCrew_31 : decode cX5_setCrew 31 = .ok (.getfield 10, 3) := by decide +kernel
theorem dX5_setCrew_34 : decode cX5_setCrew 34 = .ok (.getfield 74, 3) := by decide +kernel
theorem dX5_setCrew_37 : decode cX5_setCrew 37 = .ok (.istore_n 3, 1) := by decide +kernel
theorem dX5_setCrew_38 : decode cX5_setCrew 38 = .ok (.aload_n 0, 1) := by decide +kernel
theorem dX5_setCrew_39 : decode cX5_setCrew 39 = .ok (.getfield 10, 3) := by decide +kernel
theorem dX5_setCrew_42 : decode cX5_setCrew 42 = .ok (.iload_n 1, 1) := by decide +kernel
theorem dX5_setCrew_43 : decode cX5_setCrew 43 = .ok (.putfield 77, 3) := by decide +kernel
theorem dX5_setCrew_46 : decode cX5_setCrew 46 = .ok (.aload_n 0, 1) := by decide +kernel
theorem dX5_setCrew_47 : decode cX5_setCrew 47 = .ok (.getfield 10, 3) := by decide +kernel
theorem dX5_setCrew_50 : decode cX5_setCrew 50 = .ok (.iload_n 2, 1) := by decide +kernel
theorem dX5_setCrew_51 : decode cX5_setCrew 51 = .ok (.putfield 74, 3) := by decide +kernel
theorem dX5_setCrew_54 : decode cX5_setCrew 54 = .ok (.iload_n 3, 1) := by decide +kernel
theorem dX5_setCrew_55 : decode cX5_setCrew 55 = .ok (.ireturn, 1) := by decide +kernel
set_option maxRecDepth 20000 in
theorem ggX5_addDrowned_X5_isWithin : GoodIn wsX5_addDrowned wsX5_isWithin := goodIn_r _ [11] (by decide +kernel) (by decide +kernel)
set_option maxRecDepth 20000 in
theorem gX5_addDrowned_X5_isWithin : GoodIn wsX5_addDrowned (va_wsS RX5 19 yX5_isWithin wsX5_isWithin) := goodIn_app (goodIn_of _ (by decide +kernel)) ggX5_addDrowned_X5_isWithin
set_option maxRecDepth 20000 in
theorem ggX5_addDrowned_X1_append : GoodIn wsX5_addDrowned wsX1_append := goodIn_r _ [16, 17, 18, 19, 20, 21, 22, 35, 36, 37, 38, 39, 40] (by decide +kernel) (by decide +kernel)
set_option maxRecDepth 20000 in
theorem gX5_addDrowned_X1_append : GoodIn wsX5_addDrowned (wsV RX5 91 RX1 yX1_append wsX1_append) := goodIn_app (goodIn_of _ (by decide +kernel)) ggX5_addDrowned_X1_append
theorem dX5_addDrowned_0 : decode cX5_addDrowned 0 = .ok (.iload_n 1, 1) := by decide +kernel
theorem dX5_addDrowned_1 : decode cX5_addDrowned 1 = .ok (.iconst 0, 1) := by decide +kernel
theorem dX5_addDrowned_2 : decode cX5_addDrowned 2 = .ok (.bipush 99, 2) := by decide +kernel
theorem dX5_addDrowned_4 : decode cX5_addDrowned 4 = .ok (.invokestatic 19, 3) := by decide +kernel
theorem dX5_addDrowned_7 : decode cX5_addDrowned 7 = .ok (.ifCond .eq 22, 3) := by decide +kernel
theorem dX5_addDrowned_10 : decode cX5_addDrowned 10 = .ok (.iload_n 2, 1) := by decide +kernel
theorem dX5_addDrowned_11 : decode cX5_addDrowned 11 = .ok (.iconst 0, 1) := by decide +kernel
theorem dX5_addDrowned_12 : decode cX5_addDrowned 12 = .ok (.iconst 5, 1) := by decide +kernel
theorem dX5_addDrowned_13 : decode cX5_addDrowned 13 = .ok (.invokestatic 19, 3) := by decide +kernel
theorem dX5_addDrowned_16 : decode cX5_addDrowned 16 = .ok (.ifCond .eq 13, 3) := by decide +kernel
theorem dX5_addDrowned_19 : decode cX5_addDrowned 19 = .ok (.iload_n 3, 1) := by decide +kernel
theorem dX5_addDrowned_20 : decode cX5_addDrowned 20 = .ok (.iconst 1, 1) := by decide +kernel
theorem dX5_addDrowned_21 : decode cX5_addDrowned 21 = .ok (.bipush 60, 2) := by decide +kernel
theorem dX5_addDrowned_23 : decode cX5_addDrowned 23 = .ok (.invokestatic 19, 3) := by decide +kernel
theorem dX5_addDrowned_26 : decode cX5_addDrowned 26 = .ok (.ifCond .ne 13, 3) := by decide +kernel
theorem dX5_addDrowned_29 : decode cX5_addDrowned 29 = .ok (.new 23, 3) := by decide +kernel
theorem dX5_addDrowned_32 : decode cX5_addDrowned 32 = .ok (.dup, 1) := by decide +kernel
theorem dX5_addDrowned_33 : decode cX5_addDrowned 33 = .ok (.ldc 80, 2) := by decide +kernel
theorem dX5_addDrowned_35 : decode cX5_addDrowned 35 = .ok (.invokespecial 27, 3) := by decide +kernel
theorem dX5_addDrowned_38 : decode cX5_addDrowned 38 = .ok (.athrow, 1) := by decide +kernel
theorem dX5_addDrowned_39 : decode cX5_addDrowned 39 = .ok (.aload_n 0, 1) := by decide +kernel
theorem dX5_addDrowned_40 : decode cX5_addDrowned 40 = .ok (.getfield 10, 3) := by decide +kernel
theorem dX5_addDrowned_43 : decode cX5_addDrowned 43 = .ok (.getfield 82, 3) := by decide +kernel
theorem dX5_addDrowned_46 : decode cX5_addDrowned 46 = .ok (.getfield 86, 3) := by decide +kernel
theorem dX5_addDrowned_49 : decode cX5_addDrowned 49 = .ok (.bipush 16, 2) := by decide +kernel
theorem dX5_addDrowned_51 : decode cX5_addDrowned 51 = .ok (.if_icmp .lt 13, 3) := by decide +kernel
theorem dX5_addDrowned_54 : decode cX5_addDrowned 54 = .ok (.new 44, 3) := by decide +kernel
theorem dX5_addDrowned_57 : decode cX5_addDrowned 57 = .ok (.dup, 1) := by decide +kernel
theorem dX5_addDrowned_58 : decode cX5_addDrowned 58 = .ok (.ldc 89, 2) := by decide +kernel
theorem dX5_addDrowned_60 : decode cX5_addDrowned 60 = .ok (.invokespecial 48, 3) := by decide +kernel
theorem dX5_addDrowned_63 : decode cX5_addDrowned 63 = .ok (.athrow, 1) := by decide +kernel
theorem dX5_addDrowned_64 : decode cX5_addDrowned 64 = .ok (.aload_n 0, 1) := by decide +kernel
theorem dX5_addDrowned_65 : decode cX5_addDrowned 65 = .ok (.getfield 10, 3) := by decide +kernel
theorem dX5_addDrowned_68 : decode cX5_addDrowned 68 = .ok (.getfield 82, 3) := by decide +kernel
theorem dX5_addDrowned_71 : decode cX5_addDrowned 71 = .ok (.iload_n 1, 1) := by decide +kernel
theorem dX5_addDrowned_72 : decode cX5_addDrowned 72 = .ok (.iload_n 2, 1) := by decide +kernel
theorem dX5_addDrowned_73 : decode cX5_addDrowned 73 = .ok (.iload_n 3, 1) := by decide +kernel
theorem dX5_addDrowned_74 : decode cX5_addDrowned 74 = .ok (.invokevirtual 91, 3) := by decide +kernel
theorem dX5_addDrowned_77 : decode cX5_addDrowned 77 = .ok (.ireturn, 1) := by decide +kernel
set_option maxRecDepth 20000 in
theorem ggX5_bring_X1_has : GoodIn wsX5_bring wsX1_has := goodIn_r _ [15, 16, 58, 59, 60, 61, 62, 63] (by decide +kernel) (by decide +kernel)
set_option maxRecDepth 20000 in
theorem gX5_bring_X1_has : GoodIn wsX5_bring (wsV RX5 94 RX1 yX1_has wsX1_has) := goodIn_app (goodIn_of _ (by decide +kernel)) ggX5_bring_X1_has
set_option maxRecDepth 20000 in
theorem ggX5_bring_X5_isWithin : GoodIn wsX5_bring wsX5_isWithin := goodIn_r _ [20] (by decide +kernel) (by decide +kernel)
set_option maxRecDepth 20000 in
theorem gX5_bring_X5_isWithin : GoodIn wsX5_bring (va_wsS RX5 19 yX5_isWithin wsX5_isWithin) := goodIn_app (goodIn_of _ (by decide +kernel)) ggX5_bring_X5_isWithin
set_option maxRecDepth 20000 in
theorem ggX5_bring_X2_append : GoodIn wsX5_bring wsX2_append := goodIn_r _ [25, 26, 27, 28, 29, 30, 31, 32, 33, 34, 35, 48, 49, 50, 51, 52, 53, 54, 55, 56, 57] (by decide +kernel) (by decide +kernel)
set_option maxRecDepth 20000 in
theorem gX5_bring_X2_append : GoodIn wsX5_bring (wsV RX5 114 RX2 yX2_append wsX2_append) := goodIn_app (goodIn_of _ (by decide +kernel)) ggX5_bring_X2_append
theorem dX5_bring_0 : decode cX5_bring 0 = .ok (.aload_n 0, 1) := by decide +kernel
theorem dX5_bring_1 : decode cX5_bring 1 = .ok (.getfield 10, 3) := by decide +kernel
theorem dX5_bring_4 : decode cX5_bring 4 = .ok (.getfield 82, 3) := by decide +kernel
theorem dX5_bring_7 : decode cX5_bring 7 = .ok (.iload_n 1, 1) := by decide +kernel
theorem dX5_bring_8 : decode cX5_bring 8 = .ok (.invokevirtual 94, 3) := by decide +kernel
theorem dX5_bring_11 : decode cX5_bring 11 = .ok (.ifCond .ne 13, 3) := by decide +kernel
theorem dX5_bring_14 : decode cX5_bring 14 = .ok (.new 98, 3) := by decide +kernel
theorem dX5_bring_17 : decode cX5_bring 17 = .ok (.dup, 1) := by decide +kernel
theorem dX5_bring_18 : decode cX5_bring 18 = .ok (.ldc 100, 2) := by decide +kernel
theorem dX5_bring_20 : decode cX5_bring 20 = .ok (.invokespecial 102, 3) := by decide +kernel
theorem dX5_bring_23 : decode cX5_bring 23 = .ok (.athrow, 1) := by decide +kernel
theorem dX5_bring_24 : decode cX5_bring 24 = .ok (.iload_n 2, 1) := by decide +kernel
theorem dX5_bring_25 : decode cX5_bring 25 = .ok (.iconst 1, 1) := by decide +kernel
theorem dX5_bring_26 : decode cX5_bring 26 = .ok (.bipush 9, 2) := by decide +kernel
theorem dX5_bring_28 : decode cX5_bring 28 = .ok (.invokestatic 19, 3) := by decide +kernel
theorem dX5_bring_31 : decode cX5_bring 31 = .ok (.ifCond .eq 13, 3) := by decide +kernel
theorem dX5_bring_34 : decode cX5_bring 34 = .ok (.iload_n 3, 1) := by decide +kernel
theorem dX5_bring_35 : decode cX5_bring 35 = .ok (.iconst 1, 1) := by decide +kernel
theorem dX5_bring_36 : decode cX5_bring 36 = .ok (.bipush 60, 2) := by decide +kernel
theorem dX5_bring_38 : decode cX5_bring 38 = .ok (.invokestatic 19, 3) := by decide +kernel
theorem dX5_bring_41 : decode cX5_bring 41 = .ok (.ifCond .ne 13, 3) := by decide +kernel
theorem dX5_bring_44 : decode cX5_bring 44 = .ok (.new 23, 3) := by decide +kernel
theorem dX5_bring_47 : decode cX5_bring 47 = .ok (.dup, 1) := by decide +kernel
theorem dX5_bring_48 : decode cX5_bring 48 = .ok (.ldc 103, 2) := by decide +kernel
theorem dX5_bring_50 : decode cX5_bring 50 = .ok (.invokespecial 27, 3) := by decide +kernel
theorem dX5_bring_53 : decode cX5_bring 53 = .ok (.athrow, 1) := by decide +kernel
theorem dX5_bring_54 : decode cX5_bring 54 = .ok (.aload_n 0, 1) := by decide +kernel
theorem dX5_bring_55 : decode cX5_bring 55 = .ok (.getfield 10, 3) := by decide +kernel
theorem dX5_bring_58 : decode cX5_bring 58 = .ok (.getfield 105, 3) := by decide +kernel
theorem dX5_bring_61 : decode cX5_bring 61 = .ok (.getfield 109, 3) := by decide +kernel
theorem dX5_bring_64 : decode cX5_bring 64 = .ok (.sipush 150, 3) := by decide +kernel
theorem dX5_bring_67 : decode cX5_bring 67 = .ok (.if_icmp .lt 13, 3) := by decide +kernel
theorem dX5_bring_70 : decode cX5_bring 70 = .ok (.new 44, 3) := by decide +kernel
theorem dX5_bring_73 : decode cX5_bring 73 = .ok (.dup, 1) := by decide +kernel
theorem dX5_bring_74 : decode cX5_bring 74 = .ok (.ldc 112, 2) := by decide +kernel
theorem dX5_bring_76 : decode cX5_bring 76 = .ok (.invokespecial 48, 3) := by decide +kernel
theorem dX5_bring_79 : decode cX5_bring 79 = .ok (.athrow, 1) := by decide +kernel
theorem dX5_bring_80 : decode cX5_bring 80 = .ok (.aload_n 0, 1) := by decide +kernel
theorem dX5_bring_81 : decode cX5_bring 81 = .ok (.getfield 10, 3) := by decide +kernel
theorem dX5_bring_84 : decode cX5_bring 84 = .ok (.getfield 105, 3) := by decide +kernel
theorem dX5_bring_87 : decode cX5_bring 87 = .ok (.iload_n 1, 1) := by decide +kernel
theorem dX5_bring_88 : decode cX5_bring 88 = .ok (.iload_n 2, 1) := by decide +kernel
theorem dX5_bring_89 : decode cX5_bring 89 = .ok (.iload_n 3, 1) := by decide +kernel
theorem dX5_bring_90 : decode cX5_bring 90 = .ok (.invokevirtual 114, 3) := by decide +kernel
theorem dX5_bring_93 : decode cX5_bring 93 = .ok (.ireturn, 1) := by decide +kernel
set_option maxRecDepth 20000 in
theorem ggX5_letter_X2_has : GoodIn wsX5_letter wsX2_has := goodIn_r _ [9, 10, 41, 42, 43, 44, 45, 46, 47, 48, 49, 50] (by decide +kernel) (by decide +kernel)
set_option maxRecDepth 20000 in
theorem gX5_letter_X2_has : GoodIn wsX5_letter (wsV RX5 115 RX2 yX2_has wsX2_has) := goodIn_app (goodIn_of _ (by decide +kernel)) ggX5_letter_X2_has
set_option maxRecDepth 20000 in
theorem ggX5_letter_X5_isWithin : GoodIn wsX5_letter wsX5_isWithin := goodIn_r _ [14] (by decide +kernel) (by decide +kernel)
set_option maxRecDepth 20000 in
theorem gX5_letter_X5_isWithin : GoodIn wsX5_letter (va_wsS RX5 19 yX5_isWithin wsX5_isWithin) := goodIn_app (goodIn_of _ (by decide +kernel)) ggX5_letter_X5_isWithin
set_option maxRecDepth 20000 in
theorem ggX5_letter_X2_fact : GoodIn wsX5_letter wsX2_fact := goodIn_r _ [18, 19, 20, 21, 22, 23, 24, 25, 26, 27, 28, 6, 7, 8, 9, 10, 41, 42, 43, 44, 45, 46, 47, 48, 49, 50] (by decide +kernel) (by decide +kernel)
set_option maxRecDepth 20000 in
theorem gX5_letter_X2_fact : GoodIn wsX5_letter (wsV RX5 141 RX2 yX2_fact wsX2_fact) := goodIn_app (goodIn_of _ (by decide +kernel)) ggX5_letter_X2_fact
theorem dX5_letter_0 : decode cX5_letter 0 = .ok (.aload_n 0, 1) := by decide +kernel
theorem dX5_letter_1 : decode cX5_letter 1 = .ok (.getfield 10, 3) := by decide +kernel
theorem dX5_letter_4 : decode cX5_letter 4 = .ok (.getfield 105, 3) := by decide +kernel
theorem dX5_letter_7 : decode cX5_letter 7 = .ok (.iload_n 1, 1) := by decide +kernel
theorem dX5_letter_8 : decode cX5_letter 8 = .ok (.invokevirtual 115, 3) := by decide +kernel
theorem dX5_letter_11 : decode cX5_letter 11 = .ok (.ifCond .eq 13, 3) := by decide +kernel
theorem dX5_letter_14 : decode cX5_letter 14 = .ok (.iload_n 2, 1) := by decide +kernel
theorem dX5_letter_15 : decode cX5_letter 15 = .ok (.iconst 0, 1) := by decide +kernel
theorem dX5_letter_16 : decode cX5_letter 16 = .ok (.bipush 8, 2) := by decide +kernel
theorem dX5_letter_18 : decode cX5_letter 18 = .ok (.invokestatic 19, 3) := by decide +kernel
theorem dX5_letter_21 : decode cX5_letter 21 = .ok (.ifCond .ne 13, 3) := by decide +kernel
theorem dX5_letter_24 : decode cX5_letter 24 = .ok (.new 98, 3) := by decide +kernel
theorem dX5_letter_27 : decode cX5_letter 27 = .ok (.dup, 1) := by decide +kernel
theorem dX5_letter_28 : decode cX5_letter 28 = .ok (.ldc 139, 2) := by decide +kernel
theorem dX5_letter_30 : decode cX5_letter 30 = .ok (.invokespecial 102, 3) := by decide +kernel
theorem dX5_letter_33 : decode cX5_letter 33 = .ok (.athrow, 1) := by decide +kernel
theorem dX5_letter_34 : decode cX5_letter 34 = .ok (.aload_n 0, 1) := by decide +kernel
theorem dX5_letter_35 : decode cX5_letter 35 = .ok (.getfield 10, 3) := by decide +kernel
theorem dX5_letter_38 : decode cX5_letter 38 = .ok (.getfield 105, 3) := by decide +kernel
theorem dX5_letter_41 : decode cX5_letter 41 = .ok (.iload_n 1, 1) := by decide +kernel
theorem dX5_letter_42 : decode cX5_letter 42 = .ok (.iload_n 2, 1) := by decide +kernel
theorem dX5_letter_43 : decode cX5_letter 43 = .ok (.invokevirtual 141, 3) := by decide +kernel
theorem dX5_letter_46 : decode cX5_letter 46 = .ok (.ireturn, 1) := by decide +kernel
set_option maxRecDepth 20000 in
theorem ggX5_drowned_X1_has : GoodIn wsX5_drowned wsX1_has := goodIn_r _ [9, 10, 37, 38, 39, 40, 41, 42] (by decide +kernel) (by decide +kernel)
set_option maxRecDepth 20000 in
theorem gX5_drowned_X1_has : GoodIn wsX5_drowned (wsV RX5 94 RX1 yX1_has wsX1_has) := goodIn_app (goodIn_of _ (by decide +kernel)) ggX5_drowned_X1_has
set_option maxRecDepth 20000 in
theorem ggX5_drowned_X5_isWithin : GoodIn wsX5_drowned wsX5_isWithin := goodIn_r _ [14] (by decide +kernel) (by decide +kernel)
set_option maxRecDepth 20000 in
theorem gX5_drowned_X5_isWithin : GoodIn wsX5_drowned (va_wsS RX5 19 yX5_isWithin wsX5_isWithin) := goodIn_app (goodIn_of _ (by decide +kernel)) ggX5_drowned_X5_isWithin
set_option maxRecDepth 20000 in
theorem ggX5_drowned_X1_fact : GoodIn wsX5_drowned wsX1_fact := goodIn_r _ [18, 19, 20, 21, 22, 23, 24, 6, 7, 8, 9, 10, 37, 38, 39, 40, 41, 42] (by decide +kernel) (by decide +kernel)
set_option maxRecDepth 20000 in
theorem gX5_drowned_X1_fact : GoodIn wsX5_drowned (wsV RX5 146 RX1 yX1_fact wsX1_fact) := goodIn_app (goodIn_of _ (by decide +kernel)) ggX5_drowned_X1_fact
theorem dX5_drowned_0 : decode cX5_drowned 0 = .ok (.aload_n 0, 1) := by decide +kernel
theorem dX5_drowned_1 : decode cX5_drowned 1 = .ok (.getfield 10, 3) := by decide +kernel
theorem dX5_drowned_4 : decode cX5_drowned 4 = .ok (.getfield 82, 3) := by decide +kernel
theorem dX5_drowned_7 : decode cX5_drowned 7 = .ok (.iload_n 1, 1) := by decide +kernel
theorem dX5_drowned_8 : decode cX5_drowned 8 = .ok (.invokevirtual 94, 3) := by decide +kernel
theorem dX5_drowned_11 : decode cX5_drowned 11 = .ok (.ifCond .eq 12, 3) := by decide +kernel
theorem dX5_drowned_14 : decode cX5_drowned 14 = .ok (.iload_n 2, 1) := by decide +kernel
theorem dX5_drowned_15 : decode cX5_drowned 15 = .ok (.iconst 0, 1) := by decide +kernel
theorem dX5_drowned_16 : decode cX5_drowned 16 = .ok (.iconst 4, 1) := by decide +kernel
theorem dX5_drowned_17 : decode cX5_drowned 17 = .ok (.invokestatic 19, 3) := by decide +kernel
theorem dX5_drowned_20 : decode cX5_drowned 20 = .ok (.ifCond .ne 13, 3) := by decide +kernel
theorem dX5_drowned_23 : decode cX5_drowned 23 = .ok (.new 98, 3) := by decide +kernel
theorem dX5_drowned_26 : decode cX5_drowned 26 = .ok (.dup, 1) := by decide +kernel
theorem dX5_drowned_27 : decode cX5_drowned 27 = .ok (.ldc 144, 2) := by decide +kernel
theorem dX5_drowned_29 : decode cX5_drowned 29 = .ok (.invokespecial 102, 3) := by decide +kernel
theorem dX5_drowned_32 : decode cX5_drowned 32 = .ok (.athrow, 1) := by decide +kernel
theorem dX5_drowned_33 : decode cX5_drowned 33 = .ok (.aload_n 0, 1) := by decide +kernel
theorem dX5_drowned_34 : decode cX5_drowned 34 = .ok (.getfield 10, 3) := by decide +kernel
theorem dX5_drowned_37 : decode cX5_drowned 37 = .ok (.getfield 82, 3) := by decide +kernel
theorem dX5_drowned_40 : decode cX5_drowned 40 = .ok (.iload_n 1, 1) := by decide +kernel
theorem dX5_drowned_41 : decode cX5_drowned 41 = .ok (.iload_n 2, 1) := by decide +kernel
theorem dX5_drowned_42 : decode cX5_drowned 42 = .ok (.invokevirtual 146, 3) := by decide +kernel
theorem dX5_drowned_45 : decode cX5_drowned 45 = .ok (.ireturn, 1) := by decide +kernel
set_option maxRecDepth 20000 in
theorem ggX5_bin_X0_has : GoodIn wsX5_bin wsX0_has := goodIn_r _ [9, 10, 69, 70, 71, 72] (by decide +kernel) (by decide +kernel)
set_option maxRecDepth 20000 in
theorem gX5_bin_X0_has : GoodIn wsX5_bin (wsV RX5 122 RX0 yX0_has wsX0_has) := goodIn_app (goodIn_of _ (by decide +kernel)) ggX5_bin_X0_has
set_option maxRecDepth 20000 in
theorem ggX5_bin_X5_isWithin : GoodIn wsX5_bin wsX5_isWithin := goodIn_r _ [14] (by decide +kernel) (by decide +kernel)
set_option maxRecDepth 20000 in
theorem gX5_bin_X5_isWithin : GoodIn wsX5_bin (va_wsS RX5 19 yX5_isWithin wsX5_isWithin) := goodIn_app (goodIn_of _ (by decide +kernel)) ggX5_bin_X5_isWithin
set_option maxRecDepth 20000 in
theorem ggX5_bin_X3_binFact : GoodIn wsX5_bin wsX3_binFact := goodIn_r _ [19, 20, 21, 22, 23, 24, 25, 6, 7, 8, 9, 10, 26, 27, 28, 18, 29, 30, 31, 32, 33, 34, 35, 36, 37, 38, 39, 40, 41, 42, 43, 44, 45, 46, 47, 48, 49, 50, 51, 52, 53, 54, 55, 56, 59, 60, 61, 62, 63, 64, 65, 66, 67, 68, 69, 70, 71, 72, 73, 74, 75, 76, 77, 78, 79, 80, 81, 82, 83, 84] (by decide +kernel) (by decide +kernel)
set_option maxRecDepth 20000 in
theorem gX5_bin_X3_binFact : GoodIn wsX5_bin (wsV RX5 149 RX3 yX3_binFact wsX3_binFact) := goodIn_app (goodIn_of _ (by decide +kernel)) ggX5_bin_X3_binFact
theorem dX5_bin_0 : decode cX5_bin 0 = .ok (.aload_n 0, 1) := by decide +kernel
theorem dX5_bin_1 : decode cX5_bin 1 = .ok (.getfield 10, 3) := by decide +kernel
theorem dX5_bin_4 : decode cX5_bin 4 = .ok (.getfield 60, 3) := by decide +kernel
theorem dX5_bin_7 : decode cX5_bin 7 = .ok (.iload_n 1, 1) := by decide +kernel
theorem dX5_bin_8 : decode cX5_bin 8 = .ok (.invokevirtual 122, 3) := by decide +kernel
theorem dX5_bin_11 : decode cX5_bin 11 = .ok (.ifCond .eq 12, 3) := by decide +kernel
theorem dX5_bin_14 : decode cX5_bin 14 = .ok (.iload_n 2, 1) := by decide +kernel
theorem dX5_bin_15 : decode cX5_bin 15 = .ok (.iconst 0, 1) := by decide +kernel
theorem dX5_bin_16 : decode cX5_bin 16 = .ok (.iconst 4, 1) := by decide +kernel
theorem dX5_bin_17 : decode cX5_bin 17 = .ok (.invokestatic 19, 3) := by decide +kernel
theorem dX5_bin_20 : decode cX5_bin 20 = .ok (.ifCond .ne 13, 3) := by decide +kernel
theorem dX5_bin_23 : decode cX5_bin 23 = .ok (.new 98, 3) := by decide +kernel
theorem dX5_bin_26 : decode cX5_bin 26 = .ok (.dup, 1) := by decide +kernel
theorem dX5_bin_27 : decode cX5_bin 27 = .ok (.ldc 147, 2) := by decide +kernel
theorem dX5_bin_29 : decode cX5_bin 29 = .ok (.invokespecial 102, 3) := by decide +kernel
theorem dX5_bin_32 : decode cX5_bin 32 = .ok (.athrow, 1) := by decide +kernel
theorem dX5_bin_33 : decode cX5_bin 33 = .ok (.aload_n 0, 1) := by decide +kernel
theorem dX5_bin_34 : decode cX5_bin 34 = .ok (.getfield 10, 3) := by decide +kernel
theorem dX5_bin_37 : decode cX5_bin 37 = .ok (.iload_n 1, 1) := by decide +kernel
theorem dX5_bin_38 : decode cX5_bin 38 = .ok (.iload_n 2, 1) := by decide +kernel
theorem dX5_bin_39 : decode cX5_bin 39 = .ok (.invokevirtual 149, 3) := by decide +kernel
theorem dX5_bin_42 : decode cX5_bin 42 = .ok (.ireturn, 1) := by decide +kernel
set_option maxRecDepth 20000 in
theorem ggX5_pass_X5_isWithin : GoodIn wsX5_pass wsX5_isWithin := goodIn_r _ [7] (by decide +kernel) (by decide +kernel)
set_option maxRecDepth 20000 in
theorem gX5_pass_X5_isWithin : GoodIn wsX5_pass (va_wsS RX5 19 yX5_isWithin wsX5_isWithin) := goodIn_app (goodIn_of _ (by decide +kernel)) ggX5_pass_X5_isWithin
set_option maxRecDepth 20000 in
theorem ggX5_pass_X3_letGoBy : GoodIn wsX5_pass wsX3_letGoBy := goodIn_r _ [12, 13, 14, 15, 16, 11, 17, 18, 19, 20, 21, 22, 23, 24, 25, 26, 27, 28, 29, 30, 31, 32, 33, 34, 35, 36, 37, 38, 39, 40, 41, 42, 43, 44, 45, 46, 47, 48, 49, 50, 51, 52, 53, 54, 55, 56, 57, 58, 59, 60, 61, 62, 63, 64, 65, 66, 67, 68, 69, 70, 71, 72, 73, 74, 75, 76, 77, 78, 79, 80, 81, 82, 83, 84, 85, 86, 87, 88, 89, 90, 91, 92, 93, 94, 95, 96, 97, 98, 99, 100, 101, 102, 103, 104, 105, 106, 107, 108, 109, 110, 111, 112, 113, 114, 115, 116, 117, 118, 119, 120, 121, 122, 123, 124, 125, 126, 127, 128, 129, 130, 131, 132, 133, 134, 135, 136, 137, 138, 139, 140, 141, 142, 143, 144, 145, 146, 147, 148, 149, 150, 151, 152, 153, 154, 155, 156, 157, 158, 159, 160, 161, 162, 165, 166, 167, 168, 169, 170, 171, 172, 173, 174, 175, 176, 177, 178, 179, 180, 181, 182, 183, 184, 185, 186, 187, 188, 189, 190, 191, 192, 193, 194, 195, 196] (by decide +kernel) (by decide +kernel)
set_option maxRecDepth 20000 in
theorem gX5_pass_X3_letGoBy : GoodIn wsX5_pass (wsV RX5 154 RX3 yX3_letGoBy wsX3_letGoBy) := goodIn_app (goodIn_of _ (by decide +kernel)) ggX5_pass_X3_letGoBy
theorem dX5_pass_0 : decode cX5_pass 0 = .ok (.iload_n 1, 1) := by decide +kernel
theorem dX5_pass_1 : decode cX5_pass 1 = .ok (.iconst 1, 1) := by decide +kernel
theorem dX5_pass_2 : decode cX5_pass 2 = .ok (.sipush 200, 3) := by decide +kernel
theorem dX5_pass_5 : decode cX5_pass 5 = .ok (.invokestatic 19, 3) := by decide +kernel
theorem dX5_pass_8 : decode cX5_pass 8 = .ok (.ifCond .ne 13, 3) := by decide +kernel
theorem dX5_pass_11 : decode cX5_pass 11 = .ok (.new 23, 3) := by decide +kernel
theorem dX5_pass_14 : decode cX5_pass 14 = .ok (.dup, 1) := by decide +kernel
theorem dX5_pass_15 : decode cX5_pass 15 = .ok (.ldc 152, 2) := by decide +kernel
theorem dX5_pass_17 : decode cX5_pass 17 = .ok (.invokespecial 27, 3) := by decide +kernel
theorem dX5_pass_20 : decode cX5_pass 20 = .ok (.athrow, 1) := by decide +kernel
theorem dX5_pass_21 : decode cX5_pass 21 = .ok (.aload_n 0, 1) := by decide +kernel
theorem dX5_pass_22 : decode cX5_pass 22 = .ok (.getfield 10, 3) := by decide +kernel
theorem dX5_pass_25 : decode cX5_pass 25 = .ok (.iload_n 1, 1) := by decide +kernel
theorem dX5_pass_26 : decode cX5_pass 26 = .ok (.invokevirtual 154, 3) := by decide +kernel
theorem dX5_pass_29 : decode cX5_pass 29 = .ok (.ireturn, 1) := by decide +kernel
set_option maxRecDepth 20000 in
theorem ggX5_count_X5_isWithin : GoodIn wsX5_count wsX5_isWithin := goodIn_r _ [7] (by decide +kernel) (by decide +kernel)
set_option maxRecDepth 20000 in
theorem gX5_count_X5_isWithin : GoodIn wsX5_count (va_wsS RX5 19 yX5_isWithin wsX5_isWithin) := goodIn_app (goodIn_of _ (by decide +kernel)) ggX5_count_X5_isWithin
set_option maxRecDepth 20000 in
theorem ggX5_count_X3_total : GoodIn wsX5_count wsX3_total := goodIn_r _ [12, 13, 14, 15, 16, 17, 18, 19, 20, 21, 22, 23, 24, 25, 26, 27, 28, 29, 30, 33, 34, 35, 36, 37, 38, 39, 40, 41, 42, 43, 44, 45, 46, 47, 48, 49, 50, 51, 52, 53, 54, 55, 56, 57, 58, 59, 60, 61, 62, 63, 64] (by decide +kernel) (by decide +kernel)
set_option maxRecDepth 20000 in
theorem gX5_count_X3_total : GoodIn wsX5_count (wsV RX5 159 RX3 yX3_total wsX3_total) := goodIn_app (goodIn_of _ (by decide +kernel)) ggX5_count_X3_total
theorem dX5_count_0 : decode cX5_count 0 = .ok (.iload_n 1, 1) := by decide +kernel
theorem dX5_count_1 : decode cX5_count 1 = .ok (.iconst 0, 1) := by decide +kernel
theorem dX5_count_2 : decode cX5_count 2 = .ok (.bipush 12, 2) := by decide +kernel
theorem dX5_count_4 : decode cX5_count 4 = .ok (.invokestatic 19, 3) := by decide +kernel
theorem dX5_count_7 : decode cX5_count 7 = .ok (.ifCond .ne 13, 3) := by decide +kernel
theorem dX5_count_10 : decode cX5_count 10 = .ok (.new 98, 3) := by decide +kernel
theorem dX5_count_13 : decode cX5_count 13 = .ok (.dup, 1) := by decide +kernel
theorem dX5_count_14 : decode cX5_count 14 = .ok (.ldc 157, 2) := by decide +kernel
theorem dX5_count_16 : decode cX5_count 16 = .ok (.invokespecial 102, 3) := by decide +kernel
theorem dX5_count_19 : decode cX5_count 19 = .ok (.athrow, 1) := by decide +kernel
theorem dX5_count_20 : decode cX5_count 20 = .ok (.aload_n 0, 1) := by decide +kernel
theorem dX5_count_21 : decode cX5_count 21 = .ok (.getfield 10, 3) := by decide +kernel
theorem dX5_count_24 : decode cX5_count 24 = .ok (.iload_n 1, 1) := by decide +kernel
theorem dX5_count_25 : decode cX5_count 25 = .ok (.invokevirtual 159, 3) := by decide +kernel
theorem dX5_count_28 : decode cX5_count 28 = .ok (.ireturn, 1) := by decide +kernel
theorem dX5_isWithin_0 : decode cX5_isWithin 0 = .ok (.iload_n 0, 1) := by decide +kernel
theorem dX5_isWithin_1 : decode cX5_isWithin 1 = .ok (.iload_n 1, 1) := by decide +kernel
theorem dX5_isWithin_2 : decode cX5_isWithin 2 = .ok (.if_icmp .lt 12, 3) := by decide +kernel
theorem dX5_isWithin_5 : decode cX5_isWithin 5 = .ok (.iload_n 0, 1) := by decide +kernel
theorem dX5_isWithin_6 : decode cX5_isWithin 6 = .ok (.iload_n 2, 1) := by decide +kernel
theorem dX5_isWithin_7 : decode cX5_isWithin 7 = .ok (.if_icmp .gt 7, 3) := by decide +kernel
theorem dX5_isWithin_10 : decode cX5_isWithin 10 = .ok (.iconst 1, 1) := by decide +kernel
theorem dX5_isWithin_11 : decode cX5_isWithin 11 = .ok (.goto 4, 3) := by decide +kernel
theorem dX5_isWithin_14 : decode cX5_isWithin 14 = .ok (.iconst 0, 1) := by decide +kernel
theorem dX5_isWithin_15 : decode cX5_isWithin 15 = .ok (.ireturn, 1) := by decide +kernel
theorem dL_below_0 : decode cL_below 0 = .ok (.iload_n 0, 1) := by decide +kernel
theorem dL_below_1 : decode cL_below 1 = .ok (.ldc 7, 2) := by decide +kernel
theorem dL_below_3 : decode cL_below 3 = .ok (.iand, 1) := by decide +kernel
theorem dL_below_4 : decode cL_below 4 = .ok (.iload_n 1, 1) := by decide +kernel
theorem dL_below_5 : decode cL_below 5 = .ok (.irem, 1) := by decide +kernel
theorem dL_below_6 : decode cL_below 6 = .ok (.ireturn, 1) := by decide +kernel
theorem dL_cell_0 : decode cL_cell 0 = .ok (.iload_n 1, 1) := by decide +kernel
theorem dL_cell_1 : decode cL_cell 1 = .ok (.aload_n 0, 1) := by decide +kernel
theorem dL_cell_2 : decode cL_cell 2 = .ok (.arraylength, 1) := by decide +kernel
theorem dL_cell_3 : decode cL_cell 3 = .ok (.if_icmp .ge 9, 3) := by decide +kernel
theorem dL_cell_6 : decode cL_cell 6 = .ok (.aload_n 0, 1) := by decide +kernel
theorem dL_cell_7 : decode cL_cell 7 = .ok (.iload_n 1, 1) := by decide +kernel
theorem dL_cell_8 : decode cL_cell 8 = .ok (.iaload, 1) := by decide +kernel
theorem dL_cell_9 : decode cL_cell 9 = .ok (.goto 9, 3) := by decide +kernel
theorem dL_cell_12 : decode cL_cell 12 = .ok (.ldc 8, 2) := by decide +kernel
theorem dL_cell_14 : decode cL_cell 14 = .ok (.iload_n 1, 1) := by decide +kernel
theorem dL_cell_15 : decode cL_cell 15 = .ok (.iconst 3, 1) := by decide +kernel
theorem dL_cell_16 : decode cL_cell 16 = .ok (.iadd, 1) := by decide +kernel
theorem dL_cell_17 : decode cL_cell 17 = .ok (.imul, 1) := by decide +kernel
theorem dL_cell_18 : decode cL_cell 18 = .ok (.ireturn, 1) := by decide +kernel
set_option maxRecDepth 20000 in
theorem ggL_build_X7_init : GoodIn wsL_build wsX7_init := goodIn_r _ [11, 12, 13, 14, 4, 15, 16, 17, 18, 19, 20, 21, 22, 103, 104, 105, 106, 107, 108, 109] (by decide +kernel) (by decide +kernel)
set_option maxRecDepth 20000 in
theorem gL_build_X7_init_n11 : GoodIn wsL_build (wsX7_init) := ggL_build_X7_init
set_option maxRecDepth 20000 in
theorem ggL_build_L_cell : GoodIn wsL_build wsL_cell := goodIn_r _ [26, 27] (by decide +kernel) (by decide +kernel)
set_option maxRecDepth 20000 in
theorem gL_build_L_cell : GoodIn wsL_build (va_wsS RL 12 yL_cell wsL_cell) := goodIn_app (goodIn_of _ (by decide +kernel)) ggL_build_L_cell
set_option maxRecDepth 20000 in
theorem ggL_build_L_below : GoodIn wsL_build wsL_below := goodIn_r _ [30, 31] (by decide +kernel) (by decide +kernel)
set_option maxRecDepth 20000 in
theorem gL_build_L_below : GoodIn wsL_build (va_wsS RL 18 yL_below wsL_below) := goodIn_app (goodIn_of _ (by decide +kernel)) ggL_build_L_below
set_option maxRecDepth 20000 in
theorem ggL_build_X5_beginTides : GoodIn wsL_build wsX5_beginTides := goodIn_ca (goodIn_r _ [36, 37, 38, 39, 40, 41, 42, 43, 35, 44, 45, 46, 47, 48, 49, 50, 51, 110, 111, 112, 113, 114, 115, 116, 117, 118, 119, 120, 121, 122, 123] (by decide +kernel) (by decide +kernel)) (goodIn_sub (fun _ h => List.mem_cons_of_mem _ (List.mem_append_left _ (List.mem_append_right _ h))) (by decide +kernel))
set_option maxRecDepth 20000 in
theorem gL_build_X5_beginTides : GoodIn wsL_build (wsV RL 22 RX5 yX5_beginTides wsX5_beginTides) := goodIn_app (goodIn_of _ (by decide +kernel)) ggL_build_X5_beginTides
set_option maxRecDepth 20000 in
theorem ggL_build_X5_addTide : GoodIn wsL_build wsX5_addTide := goodIn_ca (goodIn_ca (goodIn_r _ [55, 37, 38, 56, 57, 39, 40, 41, 42, 43, 35, 44, 58, 59, 60, 48, 61, 51, 50, 110, 111, 112, 113, 114, 115, 116, 117, 118, 119, 120, 121, 122, 123] (by decide +kernel) (by decide +kernel)) (goodIn_sub (fun _ h => List.mem_cons_of_mem _ (List.mem_append_left _ (List.mem_append_right _ h))) (by decide +kernel))) (goodIn_sub (fun _ h => List.mem_cons_of_mem _ (List.mem_append_right _ h)) (by decide +kernel))
set_option maxRecDepth 20000 in
theorem gL_build_X5_addTide : GoodIn wsL_build (wsV RL 28 RX5 yX5_addTide wsX5_addTide) := goodIn_app (goodIn_of _ (by decide +kernel)) ggL_build_X5_addTide
set_option maxRecDepth 20000 in
theorem ggL_build_X5_addBin : GoodIn wsL_build wsX5_addBin := goodIn_ca (goodIn_ca (goodIn_r _ [65, 37, 38, 56, 57, 39, 66, 67, 42, 43, 35, 44, 68, 69, 70, 71, 72, 73, 74, 75, 76, 110, 111, 112, 113, 114, 115, 116, 117, 118, 119, 120, 121, 124, 125, 126, 127] (by decide +kernel) (by decide +kernel)) (goodIn_sub (fun _ h => List.mem_cons_of_mem _ (List.mem_append_left _ (List.mem_append_right _ h))) (by decide +kernel))) (goodIn_sub (fun _ h => List.mem_cons_of_mem _ (List.mem_append_right _ h)) (by decide +kernel))
set_option maxRecDepth 20000 in
theorem gL_build_X5_addBin : GoodIn wsL_build (wsV RL 35 RX5 yX5_addBin wsX5_addBin) := goodIn_app (goodIn_of _ (by decide +kernel)) ggL_build_X5_addBin
set_option maxRecDepth 20000 in
theorem ggL_build_X7_more : GoodIn wsL_build wsX7_more := goodIn_r _ [79, 16] (by decide +kernel) (by decide +kernel)
set_option maxRecDepth 20000 in
theorem gL_build_X7_more : GoodIn wsL_build (va_wsS RL 42 yX7_more wsX7_more) := goodIn_app (goodIn_of _ (by decide +kernel)) ggL_build_X7_more
set_option maxRecDepth 20000 in
theorem ggL_build_X5_addDrowned : GoodIn wsL_build wsX5_addDrowned := goodIn_ca (goodIn_ca (goodIn_r _ [83, 37, 38, 56, 57, 39, 84, 85, 42, 43, 35, 44, 86, 87, 88, 89, 90, 91, 92, 93, 94, 95, 96, 110, 111, 112, 113, 114, 115, 116, 117, 118, 119, 120, 121, 128, 129, 130, 131, 132, 133] (by decide +kernel) (by decide +kernel)) (goodIn_sub (fun _ h => List.mem_cons_of_mem _ (List.mem_append_left _ (List.mem_append_right _ h))) (by decide +kernel))) (goodIn_sub (fun _ h => List.mem_cons_of_mem _ (List.mem_append_right _ h)) (by decide +kernel))
set_option maxRecDepth 20000 in
theorem gL_build_X5_addDrowned : GoodIn wsL_build (wsV RL 46 RX5 yX5_addDrowned wsX5_addDrowned) := goodIn_app (goodIn_of _ (by decide +kernel)) ggL_build_X5_addDrowned
set_option maxRecDepth 20000 in
theorem ggL_build_X5_setCrew : GoodIn wsL_build wsX5_setCrew := goodIn_ca (goodIn_r _ [100, 37, 38, 39, 101, 102, 42, 43, 35, 44, 110, 111, 112, 113, 114, 115, 116, 117, 118, 119, 120, 121] (by decide +kernel) (by decide +kernel)) (goodIn_sub (fun _ h => List.mem_cons_of_mem _ (List.mem_append_left _ (List.mem_append_right _ h))) (by decide +kernel))
set_option maxRecDepth 20000 in
theorem gL_build_X5_setCrew : GoodIn wsL_build (wsV RL 60 RX5 yX5_setCrew wsX5_setCrew) := goodIn_app (goodIn_of _ (by decide +kernel)) ggL_build_X5_setCrew
theorem dL_build_0 : decode cL_build 0 = .ok (.new 9, 3) := by decide +kernel
theorem dL_build_3 : decode cL_build 3 = .ok (.dup, 1) := by decide +kernel
theorem dL_build_4 : decode cL_build 4 = .ok (.invokespecial 11, 3) := by decide +kernel
theorem dL_build_7 : decode cL_build 7 = .ok (.astore_n 2, 1) := by decide +kernel
theorem dL_build_8 : decode cL_build 8 = .ok (.aload_n 1, 1) := by decide +kernel
theorem dL_build_9 : decode cL_build 9 = .ok (.iconst 0, 1) := by decide +kernel
theorem dL_build_10 : decode cL_build 10 = .ok (.invokestatic 12, 3) := by decide +kernel
theorem dL_build_13 : decode cL_build 13 = .ok (.iconst 2, 1) := by decide +kernel
theorem dL_build_14 : decode cL_build 14 = .ok (.invokestatic 18, 3) := by decide +kernel
theorem dL_build_17 : decode cL_build 17 = .ok (.ifCond .ne 109, 3) := by decide +kernel
theorem dL_build_20 : decode cL_build 20 = .ok (.iconst 2, 1) := by decide +kernel
theorem dL_build_21 : decode cL_build 21 = .ok (.aload_n 1, 1) := by decide +kernel
theorem dL_build_22 : decode cL_build 22 = .ok (.iconst 0, 1) := by decide +kernel
theorem dL_build_23 : decode cL_build 23 = .ok (.invokestatic 12, 3) := by decide +kernel
theorem dL_build_26 : decode cL_build 26 = .ok (.iconst 2, 1) := by decide +kernel
theorem dL_build_27 : decode cL_build 27 = .ok (.ishr, 1) := by decide +kernel
theorem dL_build_28 : decode cL_build 28 = .ok (.bipush 12, 2) := by decide +kernel
theorem dL_build_30 : decode cL_build 30 = .ok (.invokestatic 18, 3) := by decide +kernel
theorem dL_build_33 : decode cL_build 33 = .ok (.iadd, 1) := by decide +kernel
theorem dL_build_34 : decode cL_build 34 = .ok (.istore_n 3, 1) := by decide +kernel
theorem dL_build_35 : decode cL_build 35 = .ok (.iload_n 3, 1) := by decide +kernel
theorem dL_build_36 : decode cL_build 36 = .ok (.newarray .int, 2) := by decide +kernel
theorem dL_build_38 : decode cL_build 38 = .ok (.astore 4, 2) := by decide +kernel
theorem dL_build_40 : decode cL_build 40 = .ok (.iconst 0, 1) := by decide +kernel
theorem dL_build_41 : decode cL_build 41 = .ok (.istore 5, 2) := by decide +kernel
theorem dL_build_43 : decode cL_build 43 = .ok (.iload 5, 2) := by decide +kernel
theorem dL_build_45 : decode cL_build 45 = .ok (.iload_n 3, 1) := by decide +kernel
theorem dL_build_46 : decode cL_build 46 = .ok (.if_icmp .ge 74, 3) := by decide +kernel
theorem dL_build_49 : decode cL_build 49 = .ok (.aload 4, 2) := by decide +kernel
theorem dL_build_51 : decode cL_build 51 = .ok (.iload 5, 2) := by decide +kernel
theorem dL_build_53 : decode cL_build 53 = .ok (.aload_n 1, 1) := by decide +kernel
theorem dL_build_54 : decode cL_build 54 = .ok (.iconst 1, 1) := by decide +kernel
theorem dL_build_55 : decode cL_build 55 = .ok (.iload 5, 2) := by decide +kernel
theorem dL_build_57 : decode cL_build 57 = .ok (.iconst 4, 1) := by decide +kernel
theorem dL_build_58 : decode cL_build 58 = .ok (.irem, 1) := by decide +kernel
theorem dL_build_59 : decode cL_build 59 = .ok (.iadd, 1) := by decide +kernel
theorem dL_build_60 : decode cL_build 60 = .ok (.invokestatic 12, 3) := by decide +kernel
theorem dL_build_63 : decode cL_build 63 = .ok (.iload 5, 2) := by decide +kernel
theorem dL_build_65 : decode cL_build 65 = .ok (.ishr, 1) := by decide +kernel
theorem dL_build_66 : decode cL_build 66 = .ok (.bipush 100, 2) := by decide +kernel
theorem dL_build_68 : decode cL_build 68 = .ok (.invokestatic 18, 3) := by decide +kernel
theorem dL_build_71 : decode cL_build 71 = .ok (.iastore, 1) := by decide +kernel
theorem dL_build_72 : decode cL_build 72 = .ok (.iload 5, 2) := by decide +kernel
theorem dL_build_74 : decode cL_build 74 = .ok (.ifCond .ne 17, 3) := by decide +kernel
theorem dL_build_77 : decode cL_build 77 = .ok (.aload_n 0, 1) := by decide +kernel
theorem dL_build_78 : decode cL_build 78 = .ok (.aload 4, 2) := by decide +kernel
theorem dL_build_80 : decode cL_build 80 = .ok (.iload 5, 2) := by decide +kernel
theorem dL_build_82 : decode cL_build 82 = .ok (.iaload, 1) := by decide +kernel
theorem dL_build_83 : decode cL_build 83 = .ok (.invokevirtual 22, 3) := by decide +kernel
theorem dL_build_86 : decode cL_build 86 = .ok (.bipush 12, 2) := by decide +kernel
theorem dL_build_88 : decode cL_build 88 = .ok (.if_icmp .ne 24, 3) := by decide +kernel
theorem dL_build_91 : decode cL_build 91 = .ok (.iload 5, 2) := by decide +kernel
theorem dL_build_93 : decode cL_build 93 = .ok (.ifCond .le 21, 3) := by decide +kernel
theorem dL_build_96 : decode cL_build 96 = .ok (.aload_n 0, 1) := by decide +kernel
theorem dL_build_97 : decode cL_build 97 = .ok (.aload 4, 2) := by decide +kernel
theorem dL_build_99 : decode cL_build 99 = .ok (.iload 5, 2) := by decide +kernel
theorem dL_build_101 : decode cL_build 101 = .ok (.iaload, 1) := by decide +kernel
theorem dL_build_102 : decode cL_build 102 = .ok (.invokevirtual 28, 3) := by decide +kernel
theorem dL_build_105 : decode cL_build 105 = .ok (.iload 5, 2) := by decide +kernel
theorem dL_build_107 : decode cL_build 107 = .ok (.iconst 1, 1) := by decide +kernel
theorem dL_build_108 : decode cL_build 108 = .ok (.iadd, 1) := by decide +kernel
theorem dL_build_109 : decode cL_build 109 = .ok (.if_icmp .eq 5, 3) := by decide +kernel
theorem dL_build_112 : decode cL_build 112 = .ok (.aconst_null, 1) := by decide +kernel
theorem dL_build_113 : decode cL_build 113 = .ok (.areturn, 1) := by decide +kernel
theorem dL_build_114 : decode cL_build 114 = .ok (.iinc 5 1, 3) := by decide +kernel
theorem dL_build_117 : decode cL_build 117 = .ok (.goto (-74), 3) := by decide +kernel
theorem dL_build_120 : decode cL_build 120 = .ok (.aload_n 2, 1) := by decide +kernel
theorem dL_build_121 : decode cL_build 121 = .ok (.aload 4, 2) := by decide +kernel
theorem dL_build_123 : decode cL_build 123 = .ok (.putfield 31, 3) := by decide +kernel
theorem dL_build_126 : decode cL_build 126 = .ok (.iconst 1, 1) := by decide +kernel
theorem dL_build_127 : decode cL_build 127 = .ok (.aload_n 1, 1) := by decide +kernel
theorem dL_build_128 : decode cL_build 128 = .ok (.iconst 5, 1) := by decide +kernel
theorem dL_build_129 : decode cL_build 129 = .ok (.invokestatic 12, 3) := by decide +kernel
theorem dL_build_132 : decode cL_build 132 = .ok (.iconst 5, 1) := by decide +kernel
theorem dL_build_133 : decode cL_build 133 = .ok (.invokestatic 18, 3) := by decide +kernel
theorem dL_build_136 : decode cL_build 136 = .ok (.iadd, 1) := by decide +kernel
theorem dL_build_137 : decode cL_build 137 = .ok (.istore_n 3, 1) := by decide +kernel
theorem dL_build_138 : decode cL_build 138 = .ok (.iconst 0, 1) := by decide +kernel
theorem dL_build_139 : decode cL_build 139 = .ok (.istore 4, 2) := by decide +kernel
theorem dL_build_141 : decode cL_build 141 = .ok (.iload 4, 2) := by decide +kernel
theorem dL_build_143 : decode cL_build 143 = .ok (.iload_n 3, 1) := by decide +kernel
theorem dL_build_144 : decode cL_build 144 = .ok (.if_icmp .ge 86, 3) := by decide +kernel
theorem dL_build_147 : decode cL_build 147 = .ok (.aload_n 1, 1) := by decide +kernel
theorem dL_build_148 : decode cL_build 148 = .ok (.bipush 6, 2) := by decide +kernel
theorem dL_build_150 : decode cL_build 150 = .ok (.invokestatic 12, 3) := by decide +kernel
theorem dL_build_153 : decode cL_build 153 = .ok (.iconst 3, 1) := by decide +kernel
theorem dL_build_154 : decode cL_build 154 = .ok (.iload 4, 2) := by decide +kernel
theorem dL_build_156 : decode cL_build 156 = .ok (.imul, 1) := by decide +kernel
theorem dL_build_157 : decode cL_build 157 = .ok (.ishr, 1) := by decide +kernel
theorem dL_build_158 : decode cL_build 158 = .ok (.bipush 80, 2) := by decide +kernel
theorem dL_build_160 : decode cL_build 160 = .ok (.invokestatic 18, 3) := by decide +kernel
theorem dL_build_163 : decode cL_build 163 = .ok (.istore 5, 2) := by decide +kernel
theorem dL_build_165 : decode cL_build 165 = .ok (.iconst 1, 1) := by decide +kernel
theorem dL_build_166 : decode cL_build 166 = .ok (.aload_n 1, 1) := by decide +kernel
theorem dL_build_167 : decode cL_build 167 = .ok (.bipush 7, 2) := by decide +kernel
theorem dL_build_169 : decode cL_build 169 = .ok (.invokestatic 12, 3) := by decide +kernel
theorem dL_build_172 : decode cL_build 172 = .ok (.iconst 2, 1) := by decide +kernel
theorem dL_build_173 : decode cL_build 173 = .ok (.iload 4, 2) := by decide +kernel
theorem dL_build_175 : decode cL_build 175 = .ok (.imul, 1) := by decide +kernel
theorem dL_build_176 : decode cL_build 176 = .ok (.ishr, 1) := by decide +kernel
theorem dL_build_177 : decode cL_build 177 = .ok (.bipush 8, 2) := by decide +kernel
theorem dL_build_179 : decode cL_build 179 = .ok (.invokestatic 18, 3) := by decide +kernel
theorem dL_build_182 : decode cL_build 182 = .ok (.iadd, 1) := by decide +kernel
theorem dL_build_183 : decode cL_build 183 = .ok (.istore 6, 2) := by decide +kernel
theorem dL_build_185 : decode cL_build 185 = .ok (.aload_n 0, 1) := by decide +kernel
theorem dL_build_186 : decode cL_build 186 = .ok (.iload 5, 2) := by decide +kernel
theorem dL_build_188 : decode cL_build 188 = .ok (.iload 6, 2) := by decide +kernel
theorem dL_build_190 : decode cL_build 190 = .ok (.invokevirtual 35, 3) := by decide +kernel
theorem dL_build_193 : decode cL_build 193 = .ok (.iload 4, 2) := by decide +kernel
theorem dL_build_195 : decode cL_build 195 = .ok (.if_icmp .eq 5, 3) := by decide +kernel
theorem dL_build_198 : decode cL_build 198 = .ok (.aconst_null, 1) := by decide +kernel
theorem dL_build_199 : decode cL_build 199 = .ok (.areturn, 1) := by decide +kernel
theorem dL_build_200 : decode cL_build 200 = .ok (.aload_n 2, 1) := by decide +kernel
theorem dL_build_201 : decode cL_build 201 = .ok (.aload_n 2, 1) := by decide +kernel
theorem dL_build_202 : decode cL_build 202 = .ok (.getfield 38, 3) := by decide +kernel
theorem dL_build_205 : decode cL_build 205 = .ok (.iconst 2, 1) := by decide +kernel
theorem dL_build_206 : decode cL_build 206 = .ok (.newarray .int, 2) := by decide +kernel
theorem dL_build_208 : decode cL_build 208 = .ok (.dup, 1) := by decide +kernel
theorem dL_build_209 : decode cL_build 209 = .ok (.iconst 0, 1) := by decide +kernel
theorem dL_build_210 : decode cL_build 210 = .ok (.iload 5, 2) := by decide +kernel
theorem dL_build_212 : decode cL_build 212 = .ok (.iastore, 1) := by decide +kernel
theorem dL_build_213 : decode cL_build 213 = .ok (.dup, 1) := by decide +kernel
theorem dL_build_214 : decode cL_build 214 = .ok (.iconst 1, 1) := by decide +kernel
theorem dL_build_215 : decode cL_build 215 = .ok (.iload 6, 2) := by decide +kernel
theorem dL_build_217 : decode cL_build 217 = .ok (.iastore, 1) := by decide +kernel
theorem dL_build_218 : decode cL_build 218 = .ok (.invokestatic 42, 3) := by decide +kernel
theorem dL_build_221 : decode cL_build 221 = .ok (.putfield 38, 3) := by decide +kernel
theorem dL_build_224 : decode cL_build 224 = .ok (.iinc 4 1, 3) := by decide +kernel
theorem dL_build_227 : decode cL_build 227 = .ok (.goto (-86), 3) := by decide +kernel
theorem dL_build_230 : decode cL_build 230 = .ok (.iconst 1, 1) := by decide +kernel
theorem dL_build_231 : decode cL_build 231 = .ok (.aload_n 1, 1) := by decide +kernel
theorem dL_build_232 : decode cL_build 232 = .ok (.bipush 8, 2) := by decide +kernel
theorem dL_build_234 : decode cL_build 234 = .ok (.invokestatic 12, 3) := by decide +kernel
theorem dL_build_237 : decode cL_build 237 = .ok (.iconst 5, 1) := by decide +kernel
theorem dL_build_238 : decode cL_build 238 = .ok (.invokestatic 18, 3) := by decide +kernel
theorem dL_build_241 : decode cL_build 241 = .ok (.iadd, 1) := by decide +kernel
theorem dL_build_242 : decode cL_build 242 = .ok (.istore 4, 2) := by decide +kernel
theorem dL_build_244 : decode cL_build 244 = .ok (.iconst 0, 1) := by decide +kernel
theorem dL_build_245 : decode cL_build 245 = .ok (.istore 5, 2) := by decide +kernel
theorem dL_build_247 : decode cL_build 247 = .ok (.iload 5, 2) := by decide +kernel
theorem dL_build_249 : decode cL_build 249 = .ok (.iload 4, 2) := by decide +kernel
theorem dL_build_251 : decode cL_build 251 = .ok (.if_icmp .ge 105, 3) := by decide +kernel
theorem dL_build_254 : decode cL_build 254 = .ok (.aload_n 1, 1) := by decide +kernel
theorem dL_build_255 : decode cL_build 255 = .ok (.bipush 9, 2) := by decide +kernel
theorem dL_build_257 : decode cL_build 257 = .ok (.iload 5, 2) := by decide +kernel
theorem dL_build_259 : decode cL_build 259 = .ok (.iadd, 1) := by decide +kernel
theorem dL_build_260 : decode cL_build 260 = .ok (.invokestatic 12, 3) := by decide +kernel
theorem dL_build_263 : decode cL_build 263 = .ok (.istore 6, 2) := by decide +kernel
theorem dL_build_265 : decode cL_build 265 = .ok (.iconst 5, 1) := by decide +kernel
theorem dL_build_266 : decode cL_build 266 = .ok (.newarray .int, 2) := by decide +kernel
theorem dL_build_268 : decode cL_build 268 = .ok (.dup, 1) := by decide +kernel
theorem dL_build_269 : decode cL_build 269 = .ok (.iconst 0, 1) := by decide +kernel
theorem dL_build_270 : decode cL_build 270 = .ok (.iload 6, 2) := by decide +kernel
theorem dL_build_272 : decode cL_build 272 = .ok (.bipush 100, 2) := by decide +kernel
theorem dL_build_274 : decode cL_build 274 = .ok (.invokestatic 18, 3) := by decide +kernel
theorem dL_build_277 : decode cL_build 277 = .ok (.iastore, 1) := by decide +kernel
theorem dL_build_278 : decode cL_build 278 = .ok (.dup, 1) := by decide +kernel
theorem dL_build_279 : decode cL_build 279 = .ok (.iconst 1, 1) := by decide +kernel
theorem dL_build_280 : decode cL_build 280 = .ok (.iload 6, 2) := by decide +kernel
theorem dL_build_282 : decode cL_build 282 = .ok (.iconst 2, 1) := by decide +kernel
theorem dL_build_283 : decode cL_build 283 = .ok (.ishr, 1) := by decide +kernel
theorem dL_build_284 : decode cL_build 284 = .ok (.bipush 6, 2) := by decide +kernel
theorem dL_build_286 : decode cL_build 286 = .ok (.invokestatic 18, 3) := by decide +kernel
theorem dL_build_289 : decode cL_build 289 = .ok (.iastore, 1) := by decide +kernel
theorem dL_build_290 : decode cL_build 290 = .ok (.dup, 1) := by decide +kernel
theorem dL_build_291 : decode cL_build 291 = .ok (.iconst 2, 1) := by decide +kernel
theorem dL_build_292 : decode cL_build 292 = .ok (.iconst 1, 1) := by decide +kernel
theorem dL_build_293 : decode cL_build 293 = .ok (.iload 6, 2) := by decide +kernel
theorem dL_build_295 : decode cL_build 295 = .ok (.iconst 4, 1) := by decide +kernel
theorem dL_build_296 : decode cL_build 296 = .ok (.ishr, 1) := by decide +kernel
theorem dL_build_297 : decode cL_build 297 = .ok (.bipush 20, 2) := by decide +kernel
theorem dL_build_299 : decode cL_build 299 = .ok (.invokestatic 18, 3) := by decide +kernel
theorem dL_build_302 : decode cL_build 302 = .ok (.iadd, 1) := by decide +kernel
theorem dL_build_303 : decode cL_build 303 = .ok (.iastore, 1) := by decide +kernel
theorem dL_build_304 : decode cL_build 304 = .ok (.dup, 1) := by decide +kernel
theorem dL_build_305 : decode cL_build 305 = .ok (.iconst 3, 1) := by decide +kernel
theorem dL_build_306 : decode cL_build 306 = .ok (.iconst 0, 1) := by decide +kernel
theorem dL_build_307 : decode cL_build 307 = .ok (.iastore, 1) := by decide +kernel
theorem dL_build_308 : decode cL_build 308 = .ok (.dup, 1) := by decide +kernel
theorem dL_build_309 : decode cL_build 309 = .ok (.iconst 4, 1) := by decide +kernel
theorem dL_build_310 : decode cL_build 310 = .ok (.iconst 0, 1) := by decide +kernel
theorem dL_build_311 : decode cL_build 311 = .ok (.iastore, 1) := by decide +kernel
theorem dL_build_312 : decode cL_build 312 = .ok (.astore 7, 2) := by decide +kernel
theorem dL_build_314 : decode cL_build 314 = .ok (.aload_n 0, 1) := by decide +kernel
theorem dL_build_315 : decode cL_build 315 = .ok (.aload 7, 2) := by decide +kernel
theorem dL_build_317 : decode cL_build 317 = .ok (.iconst 0, 1) := by decide +kernel
theorem dL_build_318 : decode cL_build 318 = .ok (.iaload, 1) := by decide +kernel
theorem dL_build_319 : decode cL_build 319 = .ok (.aload 7, 2) := by decide +kernel
theorem dL_build_321 : decode cL_build 321 = .ok (.iconst 1, 1) := by decide +kernel
theorem dL_build_322 : decode cL_build 322 = .ok (.iaload, 1) := by decide +kernel
theorem dL_build_323 : decode cL_build 323 = .ok (.aload 7, 2) := by decide +kernel
theorem dL_build_325 : decode cL_build 325 = .ok (.iconst 2, 1) := by decide +kernel
theorem dL_build_326 : decode cL_build 326 = .ok (.iaload, 1) := by decide +kernel
theorem dL_build_327 : decode cL_build 327 = .ok (.invokevirtual 46, 3) := by decide +kernel
theorem dL_build_330 : decode cL_build 330 = .ok (.iload 5, 2) := by decide +kernel
theorem dL_build_332 : decode cL_build 332 = .ok (.if_icmp .eq 5, 3) := by decide +kernel
theorem dL_build_335 : decode cL_build 335 = .ok (.aconst_null, 1) := by decide +kernel
theorem dL_build_336 : decode cL_build 336 = .ok (.areturn, 1) := by decide +kernel
theorem dL_build_337 : decode cL_build 337 = .ok (.aload_n 2, 1) := by decide +kernel
theorem dL_build_338 : decode cL_build 338 = .ok (.aload_n 2, 1) := by decide +kernel
theorem dL_build_339 : decode cL_build 339 = .ok (.getfield 50, 3) := by decide +kernel
theorem dL_build_342 : decode cL_build 342 = .ok (.aload 7, 2) := by decide +kernel
theorem dL_build_344 : decode cL_build 344 = .ok (.invokestatic 42, 3) := by decide +kernel
theorem dL_build_347 : decode cL_build 347 = .ok (.putfield 50, 3) := by decide +kernel
theorem dL_build_350 : decode cL_build 350 = .ok (.iinc 5 1, 3) := by decide +kernel
theorem dL_build_353 : decode cL_build 353 = .ok (.goto (-106), 3) := by decide +kernel
theorem dL_build_356 : decode cL_build 356 = .ok (.aload_n 2, 1) := by decide +kernel
theorem dL_build_357 : decode cL_build 357 = .ok (.aload_n 1, 1) := by decide +kernel
theorem dL_build_358 : decode cL_build 358 = .ok (.bipush 14, 2) := by decide +kernel
theorem dL_build_360 : decode cL_build 360 = .ok (.invokestatic 12, 3) := by decide +kernel
theorem dL_build_363 : decode cL_build 363 = .ok (.bipush 6, 2) := by decide +kernel
theorem dL_build_365 : decode cL_build 365 = .ok (.invokestatic 18, 3) := by decide +kernel
theorem dL_build_368 : decode cL_build 368 = .ok (.putfield 53, 3) := by decide +kernel
theorem dL_build_371 : decode cL_build 371 = .ok (.aload_n 2, 1) := by decide +kernel
theorem dL_build_372 : decode cL_build 372 = .ok (.aload_n 1, 1) := by decide +kernel
theorem dL_build_373 : decode cL_build 373 = .ok (.bipush 15, 2) := by decide +kernel
theorem dL_build_375 : decode cL_build 375 = .ok (.invokestatic 12, 3) := by decide +kernel
theorem dL_build_378 : decode cL_build 378 = .ok (.bipush 6, 2) := by decide +kernel
theorem dL_build_380 : decode cL_build 380 = .ok (.invokestatic 18, 3) := by decide +kernel
theorem dL_build_383 : decode cL_build 383 = .ok (.putfield 57, 3) := by decide +kernel
theorem dL_build_386 : decode cL_build 386 = .ok (.aload_n 0, 1) := by decide +kernel
theorem dL_build_387 : decode cL_build 387 = .ok (.aload_n 2, 1) := by decide +kernel
theorem dL_build_388 : decode cL_build 388 = .ok (.getfield 53, 3) := by decide +kernel
theorem dL_build_391 : decode cL_build 391 = .ok (.aload_n 2, 1) := by decide +kernel
theorem dL_build_392 : decode cL_build 392 = .ok (.getfield 57, 3) := by decide +kernel
theorem dL_build_395 : decode cL_build 395 = .ok (.invokevirtual 60, 3) := by decide +kernel
theorem dL_build_398 : decode cL_build 398 = .ok (.iconst 3, 1) := by decide +kernel
theorem dL_build_399 : decode cL_build 399 = .ok (.if_icmp .ne 7, 3) := by decide +kernel
theorem dL_build_402 : decode cL_build 402 = .ok (.aload_n 2, 1) := by decide +kernel
theorem dL_build_403 : decode cL_build 403 = .ok (.goto 4, 3) := by decide +kernel
theorem dL_build_406 : decode cL_build 406 = .ok (.aconst_null, 1) := by decide +kernel
theorem dL_build_407 : decode cL_build 407 = .ok (.areturn, 1) := by decide +kernel
