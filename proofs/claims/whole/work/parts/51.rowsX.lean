set_option maxRecDepth 20000 in
theorem ggX5_init_X3_init : GoodIn wsX5_init wsX3_init := goodIn_r _ [10, 11, 2, 3, 12, 13, 14, 15, 16, 17, 18, 19, 20, 21, 22, 23, 24, 25, 26, 27, 28, 29, 30, 31, 32, 33, 34, 35, 36, 37, 38, 39, 40, 41, 42, 43, 44, 45, 46, 47, 48, 49, 50, 51, 52, 53, 54, 55, 56, 57, 58, 59, 60, 61, 62, 63, 64, 65, 66, 67, 68, 69, 82, 83, 70, 71, 72, 73, 74, 75, 76, 77, 78, 79, 84, 85, 86, 87, 88, 89, 90, 91, 92, 93, 94, 95, 96, 97, 98, 99, 100, 101, 102, 103] (by decide +kernel) (by decide +kernel)
set_option maxRecDepth 20000 in
theorem gX5_init_X3_init_n9 : GoodIn wsX5_init (wsX3_init) := ggX5_init_X3_init
theorem dX5_init_0 : decode cX5_init 0 = .ok (.aload_n 0, 1) := by decide +kernel
theorem dX5_init_1 : decode cX5_init 1 = .ok (.invokespecial 1, 3) := by decide +kernel
theorem dX5_init_4 : decode cX5_init 4 = .ok (.aload_n 0, 1) := by decide +kernel
theorem dX5_init_5 : decode cX5_init 5 = .ok (.new 7, 3) := by decide +kernel
theorem dX5_init_8 : decode cX5_init 8 = .ok (.dup, 1) := by decide +kernel
theorem dX5_init_9 : decode cX5_init 9 = .ok (.invokespecial 9, 3) := by decide +kernel
theorem dX5_init_12 : decode cX5_init 12 = .ok (.putfield 10, 3) := by decide +kernel
theorem dX5_init_15 : decode cX5_init 15 = .ok (.aload_n 0, 1) := by decide +kernel
theorem dX5_init_16 : decode cX5_init 16 = .ok (.new 7, 3) := by decide +kernel
theorem dX5_init_19 : decode cX5_init 19 = .ok (.dup, 1) := by decide +kernel
theorem dX5_init_20 : decode cX5_init 20 = .ok (.invokespecial 9, 3) := by decide +kernel
theorem dX5_init_23 : decode cX5_init 23 = .ok (.putfield 16, 3) := by decide +kernel
theorem dX5_init_26 : decode cX5_init 26 = .ok (.return_, 1) := by decide +kernel
set_option maxRecDepth 20000 in
theorem ggX5_beginTides_X5_isWithin : GoodIn wsX5_beginTides wsX5_isWithin := goodIn_r _ [9] (by decide +kernel) (by decide +kernel)
set_option maxRecDepth 20000 in
theorem gX5_beginTides_X5_isWithin : GoodIn wsX5_beginTides (va_wsS RX5 19 yX5_isWithin wsX5_isWithin) := goodIn_app (goodIn_of _ (by decide +kernel)) ggX5_beginTides_X5_isWithin
set_option maxRecDepth 20000 in
theorem ggX5_beginTides_X4_begin : GoodIn wsX5_beginTides wsX4_begin := goodIn_r _ [14, 15, 16, 29, 30] (by decide +kernel) (by decide +kernel)
set_option maxRecDepth 20000 in
theorem gX5_beginTides_X4_begin : GoodIn wsX5_beginTides (wsV RX5 40 RX4 yX4_begin wsX4_begin) := goodIn_app (goodIn_of _ (by decide +kernel)) ggX5_beginTides_X4_begin
theorem dX5_beginTides_0 : decode cX5_beginTides 0 = .ok (.iload_n 1, 1) := by decide +kernel
theorem dX5_beginTides_1 : decode cX5_beginTides 1 = .ok (.iconst 0, 1) := by decide +kernel
theorem dX5_beginTides_2 : decode cX5_beginTides 2 = .ok (.bipush 99, 2) := by decide +kernel
theorem dX5_beginTides_4 : decode cX5_beginTides 4 = .ok (.invokestatic 19, 3) := by decide +kernel
theorem dX5_beginTides_7 : decode cX5_beginTides 7 = .ok (.ifCond .ne 13, 3) := by decide +kernel
theorem dX5_beginTides_10 : decode cX5_beginTides 10 = .ok (.new 23, 3) := by decide +kernel
theorem dX5_beginTides_13 : decode cX5_beginTides 13 = .ok (.dup, 1) := by decide +kernel
theorem dX5_beginTides_14 : decode cX5_beginTides 14 = .ok (.ldc 25, 2) := by decide +kernel
theorem dX5_beginTides_16 : decode cX5_beginTides 16 = .ok (.invokespecial 27, 3) := by decide +kernel
theorem dX5_beginTides_19 : decode cX5_beginTides 19 = .ok (.athrow, 1) := by decide +kernel
theorem dX5_beginTides_20 : decode cX5_beginTides 20 = .ok (.aload_n 0, 1) := by decide +kernel
theorem dX5_beginTides_21 : decode cX5_beginTides 21 = .ok (.getfield 10, 3) := by decide +kernel
theorem dX5_beginTides_24 : decode cX5_beginTides 24 = .ok (.getfield 30, 3) := by decide +kernel
theorem dX5_beginTides_27 : decode cX5_beginTides 27 = .ok (.getfield 34, 3) := by decide +kernel
theorem dX5_beginTides_30 : decode cX5_beginTides 30 = .ok (.istore_n 2, 1) := by decide +kernel
theorem dX5_beginTides_31 : decode cX5_beginTides 31 = .ok (.aload_n 0, 1) := by decide +kernel
theorem dX5_beginTides_32 : decode cX5_beginTides 32 = .ok (.getfield 10, 3) := by decide +kernel
theorem dX5_beginTides_35 : decode cX5_beginTides 35 = .ok (.getfield 30, 3) := by decide +kernel
theorem dX5_beginTides_38 : decode cX5_beginTides 38 = .ok (.iload_n 1, 1) := by decide +kernel
theorem dX5_beginTides_39 : decode cX5_beginTides 39 = .ok (.invokevirtual 40, 3) := by decide +kernel
theorem dX5_beginTides_42 : decode cX5_beginTides 42 = .ok (.iload_n 2, 1) := by decide +kernel
theorem dX5_beginTides_43 : decode cX5_beginTides 43 = .ok (.ireturn, 1) := by decide +kernel
set_option maxRecDepth 20000 in
theorem ggX5_addTide_X5_isWithin : GoodIn wsX5_addTide wsX5_isWithin := goodIn_r _ [11] (by decide +kernel) (by decide +kernel)
set_option maxRecDepth 20000 in
theorem gX5_addTide_X5_isWithin : GoodIn wsX5_addTide (va_wsS RX5 19 yX5_isWithin wsX5_isWithin) := goodIn_app (goodIn_of _ (by decide +kernel)) ggX5_addTide_X5_isWithin
set_option maxRecDepth 20000 in
theorem ggX5_addTide_X4_append : GoodIn wsX5_addTide wsX4_append := goodIn_r _ [16, 17, 18, 31, 32] (by decide +kernel) (by decide +kernel)
set_option maxRecDepth 20000 in
theorem gX5_addTide_X4_append : GoodIn wsX5_addTide (wsV RX5 49 RX4 yX4_append wsX4_append) := goodIn_app (goodIn_of _ (by decide +kernel)) ggX5_addTide_X4_append
theorem dX5_addTide_0 : decode cX5_addTide 0 = .ok (.iload_n 1, 1) := by decide +kernel
theorem dX5_addTide_1 : decode cX5_addTide 1 = .ok (.iconst 0, 1) := by decide +kernel
theorem dX5_addTide_2 : decode cX5_addTide 2 = .ok (.bipush 99, 2) := by decide +kernel
theorem dX5_addTide_4 : decode cX5_addTide 4 = .ok (.invokestatic 19, 3) := by decide +kernel
theorem dX5_addTide_7 : decode cX5_addTide 7 = .ok (.ifCond .ne 13, 3) := by decide +kernel
theorem dX5_addTide_10 : decode cX5_addTide 10 = .ok (.new 23, 3) := by decide +kernel
theorem dX5_addTide_13 : decode cX5_addTide 13 = .ok (.dup, 1) := by decide +kernel
theorem dX5_addTide_14 : decode cX5_addTide 14 = .ok (.ldc 25, 2) := by decide +kernel
theorem dX5_addTide_16 : decode cX5_addTide 16 = .ok (.invokespecial 27, 3) := by decide +kernel
theorem dX5_addTide_19 : decode cX5_addTide 19 = .ok (.athrow, 1) := by decide +kernel
theorem dX5_addTide_20 : decode cX5_addTide 20 = .ok (.aload_n 0, 1) := by decide +kernel
theorem dX5_addTide_21 : decode cX5_addTide 21 = .ok (.getfield 10, 3) := by decide +kernel
theorem dX5_addTide_24 : decode cX5_addTide 24 = .ok (.getfield 30, 3) := by decide +kernel
theorem dX5_addTide_27 : decode cX5_addTide 27 = .ok (.getfield 34, 3) := by decide +kernel
theorem dX5_addTide_30 : decode cX5_addTide 30 = .ok (.bipush 30, 2) := by decide +kernel
theorem dX5_addTide_32 : decode cX5_addTide 32 = .ok (.if_icmp .lt 13, 3) := by decide +kernel
theorem dX5_addTide_35 : decode cX5_addTide 35 = .ok (.new 44, 3) := by decide +kernel
theorem dX5_addTide_38 : decode cX5_addTide 38 = .ok (.dup, 1) := by decide +kernel
theorem dX5_addTide_39 : decode cX5_addTide 39 = .ok (.ldc 46, 2) := by decide +kernel
theorem dX5_addTide_41 : decode cX5_addTide 41 = .ok (.invokespecial 48, 3) := by decide +kernel
theorem dX5_addTide_44 : decode cX5_addTide 44 = .ok (.athrow, 1) := by decide +kernel
theorem dX5_addTide_45 : decode cX5_addTide 45 = .ok (.aload_n 0, 1) := by decide +kernel
theorem dX5_addTide_46 : decode cX5_addTide 46 = .ok (.getfield 10, 3) := by decide +kernel
theorem dX5_addTide_49 : decode cX5_addTide 49 = .ok (.getfield 30, 3) := by decide +kernel
theorem dX5_addTide_52 : decode cX5_addTide 52 = .ok (.iload_n 1, 1) := by decide +kernel
theorem dX5_addTide_53 : decode cX5_addTide 53 = .ok (.invokevirtual 49, 3) := by decide +kernel
theorem dX5_addTide_56 : decode cX5_addTide 56 = .ok (.aload_n 0, 1) := by decide +kernel
theorem dX5_addTide_57 : decode cX5_addTide 57 = .ok (.getfield 10, 3) := by decide +kernel
theorem dX5_addTide_60 : decode cX5_addTide 60 = .ok (.getfield 30, 3) := by decide +kernel
theorem dX5_addTide_63 : decode cX5_addTide 63 = .ok (.getfield 34, 3) := by decide +kernel
theorem dX5_addTide_66 : decode cX5_addTide 66 = .ok (.ireturn, 1) := by decide +kernel
set_option maxRecDepth 20000 in
theorem ggX5_tide_X4_heightIn : GoodIn wsX5_tide wsX4_heightIn := goodIn_r _ [9, 10, 11, 12, 13, 14, 15, 28, 29] (by decide +kernel) (by decide +kernel)
set_option maxRecDepth 20000 in
theorem gX5_tide_X4_heightIn : GoodIn wsX5_tide (wsV RX5 54 RX4 yX4_heightIn wsX4_heightIn) := goodIn_app (goodIn_of _ (by decide +kernel)) ggX5_tide_X4_heightIn
theorem dX5_tide_0 : decode cX5_tide 0 = .ok (.iload_n 1, 1) := by decide +kernel
theorem dX5_tide_1 : decode cX5_tide 1 = .ok (.ifCond .ge 13, 3) := by decide +kernel
theorem dX5_tide_4 : decode cX5_tide 4 = .ok (.new 23, 3) := by decide +kernel
theorem dX5_tide_7 : decode cX5_tide 7 = .ok (.dup, 1) := by decide +kernel
theorem dX5_tide_8 : decode cX5_tide 8 = .ok (.ldc 52, 2) := by decide +kernel
theorem dX5_tide_10 : decode cX5_tide 10 = .ok (.invokespecial 27, 3) := by decide +kernel
theorem dX5_tide_13 : decode cX5_tide 13 = .ok (.athrow, 1) := by decide +kernel
theorem dX5_tide_14 : decode cX5_tide 14 = .ok (.aload_n 0, 1) := by decide +kernel
theorem dX5_tide_15 : decode cX5_tide 15 = .ok (.getfield 10, 3) := by decide +kernel
theorem dX5_tide_18 : decode cX5_tide 18 = .ok (.getfield 30, 3) := by decide +kernel
theorem dX5_tide_21 : decode cX5_tide 21 = .ok (.iload_n 1, 1) := by decide +kernel
theorem dX5_tide_22 : decode cX5_tide 22 = .ok (.invokevirtual 54, 3) := by decide +kernel
theorem dX5_tide_25 : decode cX5_tide 25 = .ok (.ireturn, 1) := by decide +kernel
set_option maxRecDepth 20000 in
theorem ggX5_addBin_X5_isWithin : GoodIn wsX5_addBin wsX5_isWithin := goodIn_r _ [11] (by decide +kernel) (by decide +kernel)
set_option maxRecDepth 20000 in
theorem gX5_addBin_X5_isWithin : GoodIn wsX5_addBin (va_wsS RX5 19 yX5_isWithin wsX5_isWithin) := goodIn_app (goodIn_of _ (by decide +kernel)) ggX5_addBin_X5_isWithin
set_option maxRecDepth 20000 in
theorem ggX5_addBin_X0_append : GoodIn wsX5_addBin wsX0_append := goodIn_r _ [16, 17, 18, 19, 20, 33, 34, 35, 36] (by decide +kernel) (by decide +kernel)
set_option maxRecDepth 20000 in
theorem gX5_addBin_X0_append : GoodIn wsX5_addBin (wsV RX5 69 RX0 yX0_append wsX0_append) := goodIn_app (goodIn_of _ (by decide +kernel)) ggX5_addBin_X0_append
theorem dX5_addBin_0 : decode cX5_addBin 0 = .ok (.iload_n 1, 1) := by decide +kernel
theorem dX5_addBin_1 : decode cX5_addBin 1 = .ok (.iconst 0, 1) := by decide +kernel
theorem dX5_addBin_2 : decode cX5_addBin 2 = .ok (.bipush 99, 2) := by decide +kernel
theorem dX5_addBin_4 : decode cX5_addBin 4 = .ok (.invokestatic 19, 3) := by decide +kernel
theorem dX5_addBin_7 : decode cX5_addBin 7 = .ok (.ifCond .eq 13, 3) := by decide +kernel
theorem dX5_addBin_10 : decode cX5_addBin 10 = .ok (.iload_n 2, 1) := by decide +kernel
theorem dX5_addBin_11 : decode cX5_addBin 11 = .ok (.iconst 1, 1) := by decide +kernel
theorem dX5_addBin_12 : decode cX5_addBin 12 = .ok (.bipush 20, 2) := by decide +kernel
theorem dX5_addBin_14 : decode cX5_addBin 14 = .ok (.invokestatic 19, 3) := by decide +kernel
theorem dX5_addBin_17 : decode cX5_addBin 17 = .ok (.ifCond .ne 13, 3) := by decide +kernel
theorem dX5_addBin_20 : decode cX5_addBin 20 = .ok (.new 23, 3) := by decide +kernel
theorem dX5_addBin_23 : decode cX5_addBin 23 = .ok (.dup, 1) := by decide +kernel
theorem dX5_addBin_24 : decode cX5_addBin 24 = .ok (.ldc 58, 2) := by decide +kernel
theorem dX5_addBin_26 : decode cX5_addBin 26 = .ok (.invokespecial 27, 3) := by decide +kernel
theorem dX5_addBin_29 : decode cX5_addBin 29 = .ok (.athrow, 1) := by decide +kernel
theorem dX5_addBin_30 : decode cX5_addBin 30 = .ok (.aload_n 0, 1) := by decide +kernel
theorem dX5_addBin_31 : decode cX5_addBin 31 = .ok (.getfield 10, 3) := by decide +kernel
theorem dX5_addBin_34 : decode cX5_addBin 34 = .ok (.getfield 60, 3) := by decide +kernel
theorem dX5_addBin_37 : decode cX5_addBin 37 = .ok (.getfield 64, 3) := by decide +kernel
theorem dX5_addBin_40 : decode cX5_addBin 40 = .ok (.bipush 10, 2) := by decide +kernel
theorem dX5_addBin_42 : decode cX5_addBin 42 = .ok (.if_icmp .lt 13, 3) := by decide +kernel
theorem dX5_addBin_45 : decode cX5_addBin 45 = .ok (.new 44, 3) := by decide +kernel
theorem dX5_addBin_48 : decode cX5_addBin 48 = .ok (.dup, 1) := by decide +kernel
theorem dX5_addBin_49 : decode cX5_addBin 49 = .ok (.ldc 67, 2) := by decide +kernel
theorem dX5_addBin_51 : decode cX5_addBin 51 = .ok (.invokespecial 48, 3) := by decide +kernel
theorem dX5_addBin_54 : decode cX5_addBin 54 = .ok (.athrow, 1) := by decide +kernel
theorem dX5_addBin_55 : decode cX5_addBin 55 = .ok (.aload_n 0, 1) := by decide +kernel
theorem dX5_addBin_56 : decode cX5_addBin 56 = .ok (.getfield 10, 3) := by decide +kernel
theorem dX5_addBin_59 : decode cX5_addBin 59 = .ok (.getfield 60, 3) := by decide +kernel
theorem dX5_addBin_62 : decode cX5_addBin 62 = .ok (.iload_n 1, 1) := by decide +kernel
theorem dX5_addBin_63 : decode cX5_addBin 63 = .ok (.iload_n 2, 1) := by decide +kernel
theorem dX5_addBin_64 : decode cX5_addBin 64 = .ok (.invokevirtual 69, 3) := by decide +kernel
theorem dX5_addBin_67 : decode cX5_addBin 67 = .ok (.ireturn, 1) := by decide +kernel
set_option maxRecDepth 20000 in
theorem ggX5_setCrew_X5_isWithin : GoodIn wsX5_setCrew wsX5_isWithin := goodIn_r _ [9] (by decide +kernel) (by decide +kernel)
set_option maxRecDepth 20000 in
theorem gX5_setCrew_X5_isWithin : GoodIn wsX5_setCrew (va_wsS RX5 19 yX5_isWithin wsX5_isWithin) := goodIn_app (goodIn_of _ (by decide +kernel)) ggX5_setCrew_X5_isWithin
theorem dX5_setCrew_0 : decode cX5_setCrew 0 = .ok (.iload_n 1, 1) := by decide +kernel
theorem dX5_setCrew_1 : decode cX5_setCrew 1 = .ok (.iconst 0, 1) := by decide +kernel
theorem dX5_setCrew_2 : decode cX5_setCrew 2 = .ok (.bipush 9, 2) := by decide +kernel
theorem dX5_setCrew_4 : decode cX5_setCrew 4 = .ok (.invokestatic 19, 3) := by decide +kernel
theorem dX5_setCrew_7 : decode cX5_setCrew 7 = .ok (.ifCond .eq 13, 3) := by decide +kernel
theorem dX5_setCrew_10 : decode cX5_setCrew 10 = .ok (.iload_n 2, 1) := by decide +kernel
theorem dX5_setCrew_11 : decode cX5_setCrew 11 = .ok (.iconst 0, 1) := by decide +kernel
theorem dX5_setCrew_12 : decode cX5_setCrew 12 = .ok (.bipush 9, 2) := by decide +kernel
theorem dX5_setCrew_14 : decode cX5_setCrew 14 = .ok (.invokestatic 19, 3) := by decide +kernel
theorem dX5_setCrew_17 : decode cX5_setCrew 17 = .ok (.ifCond .ne 13, 3) := by decide +kernel
theorem dX5_setCrew_20 : decode cX5_setCrew 20 = .ok (.new 23, 3) := by decide +kernel
theorem dX5_setCrew_23 : decode cX5_setCrew 23 = .ok (.dup, 1) := by decide +kernel
theorem dX5_setCrew_24 : decode cX5_setCrew 24 = .ok (.ldc 72, 2) := by decide +kernel
theorem dX5_setCrew_26 : decode cX5_setCrew 26 = .ok (.invokespecial 27, 3) := by decide +kernel
theorem dX5_setCrew_29 : decode cX5_setCrew 29 = .ok (.athrow, 1) := by decide +kernel
theorem dX5_setCrew_30 : decode cX5_setCrew 30 = .ok (.aload_n 0, 1) := by decide +kernel
theorem dX5_setCrew_31 : decode cX5_setCrew 31 = .ok (.getfield 10, 3) := by decide +kernel
theorem dX5_setCrew_34 : decode cX5_setCrew 34 = .ok (.getfield 74, 3) := by decide +kernel
theorem dX5_setCrew_37 : decode cX5_setCrew 37 = .ok (.istore_n 3, 1) := by decide +kernel
theorem dX5_setCrew_38 : decode cX5_setCrew 38 = .ok (.aload_n 0, 1) := by decide +kernel
theorem dX5_setCrew_39 : decode cX5_setCrew 39 = .ok (.getfield 10, 3) := by decide +kernel
theorem dX5_setCrew_42 : decode cX5_setCrew 42 = .ok (.iload_n 1, 1) := by decide +kernel
theorem dX5_setCrew_43 : decode cX5_setCrew 43 = .ok (.putfield 77, 3) := by decide +kernel
theorem dX5_setCrew_46 : decode cX5_setCrew 46 = .ok (.aload_n 0, 1) := by decide +kernel
theorem dX5_setCrew_47 : decode cX5_setCrew 47 = .ok (.getfield 10, 3) := by decide +kernel
theorem dX5_setCrew_50 : decode cX5_setCrew 50 = .ok (.iload_n 2, 1) := by decide +kernel
theorem dX5_setCrew_51 : decode cX5_setCrew 51 = .ok (.putfield 74, 3) := by decide +kernel
theorem dX5_setCrew_54 : decode cX5_setCrew 54 = .ok (.iload_n 3, 1) := by decide +kernel
theorem dX5_setCrew_55 : decode cX5_setCrew 55 = .ok (.ireturn, 1) := by decide +kernel
set_option maxRecDepth 20000 in
theorem ggX5_addDrowned_X5_isWithin : GoodIn wsX5_addDrowned wsX5_isWithin := goodIn_r _ [11] (by decide +kernel) (by decide +kernel)
set_option maxRecDepth 20000 in
theorem gX5_addDrowned_X5_isWithin : GoodIn wsX5_addDrowned (va_wsS RX5 19 yX5_isWithin wsX5_isWithin) := goodIn_app (goodIn_of _ (by decide +kernel)) ggX5_addDrowned_X5_isWithin
set_option maxRecDepth 20000 in
theorem ggX5_addDrowned_X1_append : GoodIn wsX5_addDrowned wsX1_append := goodIn_r _ [16, 17, 18, 19, 20, 21, 22, 35, 36, 37, 38, 39, 40] (by decide +kernel) (by decide +kernel)
set_option maxRecDepth 20000 in
theorem gX5_addDrowned_X1_append : GoodIn wsX5_addDrowned (wsV RX5 91 RX1 yX1_append wsX1_append) := goodIn_app (goodIn_of _ (by decide +kernel)) ggX5_addDrowned_X1_append
theorem dX5_addDrowned_0 : decode cX5_addDrowned 0 = .ok (.iload_n 1, 1) := by decide +kernel
theorem dX5_addDrowned_1 : decode cX5_addDrowned 1 = .ok (.iconst 0, 1) := by decide +kernel
theorem dX5_addDrowned_2 : decode cX5_addDrowned 2 = .ok (.bipush 99, 2) := by decide +kernel
theorem dX5_addDrowned_4 : decode cX5_addDrowned 4 = .ok (.invokestatic 19, 3) := by decide +kernel
theorem dX5_addDrowned_7 : decode cX5_addDrowned 7 = .ok (.ifCond .eq 22, 3) := by decide +kernel
theorem dX5_addDrowned_10 : decode cX5_addDrowned 10 = .ok (.iload_n 2, 1) := by decide +kernel
theorem dX5_addDrowned_11 : decode cX5_addDrowned 11 = .ok (.iconst 0, 1) := by decide +kernel
theorem dX5_addDrowned_12 : decode cX5_addDrowned 12 = .ok (.iconst 5, 1) := by decide +kernel
theorem dX5_addDrowned_13 : decode cX5_addDrowned 13 = .ok (.invokestatic 19, 3) := by decide +kernel
theorem dX5_addDrowned_16 : decode cX5_addDrowned 16 = .ok (.ifCond .eq 13, 3) := by decide +kernel
theorem dX5_addDrowned_19 : decode cX5_addDrowned 19 = .ok (.iload_n 3, 1) := by decide +kernel
theorem dX5_addDrowned_20 : decode cX5_addDrowned 20 = .ok (.iconst 1, 1) := by decide +kernel
theorem dX5_addDrowned_21 : decode cX5_addDrowned 21 = .ok (.bipush 60, 2) := by decide +kernel
theorem dX5_addDrowned_23 : decode cX5_addDrowned 23 = .ok (.invokestatic 19, 3) := by decide +kernel
theorem dX5_addDrowned_26 : decode cX5_addDrowned 26 = .ok (.ifCond .ne 13, 3) := by decide +kernel
theorem dX5_addDrowned_29 : decode cX5_addDrowned 29 = .ok (.new 23, 3) := by decide +kernel
theorem dX5_addDrowned_32 : decode cX5_addDrowned 32 = .ok (.dup, 1) := by decide +kernel
theorem dX5_addDrowned_33 : decode cX5_addDrowned 33 = .ok (.ldc 80, 2) := by decide +kernel
theorem dX5_addDrowned_35 : decode cX5_addDrowned 35 = .ok (.invokespecial 27, 3) := by decide +kernel
theorem dX5_addDrowned_38 : decode cX5_addDrowned 38 = .ok (.athrow, 1) := by decide +kernel
theorem dX5_addDrowned_39 : decode cX5_addDrowned 39 = .ok (.aload_n 0, 1) := by decide +kernel
theorem dX5_addDrowned_40 : decode cX5_addDrowned 40 = .ok (.getfield 10, 3) := by decide +kernel
theorem dX5_addDrowned_43 : decode cX5_addDrowned 43 = .ok (.getfield 82, 3) := by decide +kernel
theorem dX5_addDrowned_46 : decode cX5_addDrowned 46 = .ok (.getfield 86, 3) := by decide +kernel
theorem dX5_addDrowned_49 : decode cX5_addDrowned 49 = .ok (.bipush 16, 2) := by decide +kernel
theorem dX5_addDrowned_51 : decode cX5_addDrowned 51 = .ok (.if_icmp .lt 13, 3) := by decide +kernel
theorem dX5_addDrowned_54 : decode cX5_addDrowned 54 = .ok (.new 44, 3) := by decide +kernel
theorem dX5_addDrowned_57 : decode cX5_addDrowned 57 = .ok (.dup, 1) := by decide +kernel
theorem dX5_addDrowned_58 : decode cX5_addDrowned 58 = .ok (.ldc 89, 2) := by decide +kernel
theorem dX5_addDrowned_60 : decode cX5_addDrowned 60 = .ok (.invokespecial 48, 3) := by decide +kernel
theorem dX5_addDrowned_63 : decode cX5_addDrowned 63 = .ok (.athrow, 1) := by decide +kernel
theorem dX5_addDrowned_64 : decode cX5_addDrowned 64 = .ok (.aload_n 0, 1) := by decide +kernel
theorem dX5_addDrowned_65 : decode cX5_addDrowned 65 = .ok (.getfield 10, 3) := by decide +kernel
theorem dX5_addDrowned_68 : decode cX5_addDrowned 68 = .ok (.getfield 82, 3) := by decide +kernel
theorem dX5_addDrowned_71 : decode cX5_addDrowned 71 = .ok (.iload_n 1, 1) := by decide +kernel
theorem dX5_addDrowned_72 : decode cX5_addDrowned 72 = .ok (.iload_n 2, 1) := by decide +kernel
theorem dX5_addDrowned_73 : decode cX5_addDrowned 73 = .ok (.iload_n 3, 1) := by decide +kernel
theorem dX5_addDrowned_74 : decode cX5_addDrowned 74 = .ok (.invokevirtual 91, 3) := by decide +kernel
theorem dX5_addDrowned_77 : decode cX5_addDrowned 77 = .ok (.ireturn, 1) := by decide +kernel
set_option maxRecDepth 20000 in
theorem ggX5_bring_X1_has : GoodIn wsX5_bring wsX1_has := goodIn_r _ [15, 16, 58, 59, 60, 61, 62, 63] (by decide +kernel) (by decide +kernel)
set_option maxRecDepth 20000 in
theorem gX5_bring_X1_has : GoodIn wsX5_bring (wsV RX5 94 RX1 yX1_has wsX1_has) := goodIn_app (goodIn_of _ (by decide +kernel)) ggX5_bring_X1_has
set_option maxRecDepth 20000 in
theorem ggX5_bring_X5_isWithin : GoodIn wsX5_bring wsX5_isWithin := goodIn_r _ [20] (by decide +kernel) (by decide +kernel)
set_option maxRecDepth 20000 in
theorem gX5_bring_X5_isWithin : GoodIn wsX5_bring (va_wsS RX5 19 yX5_isWithin wsX5_isWithin) := goodIn_app (goodIn_of _ (by decide +kernel)) ggX5_bring_X5_isWithin
set_option maxRecDepth 20000 in
theorem ggX5_bring_X2_append : GoodIn wsX5_bring wsX2_append := goodIn_r _ [25, 26, 27, 28, 29, 30, 31, 32, 33, 34, 35, 48, 49, 50, 51, 52, 53, 54, 55, 56, 57] (by decide +kernel) (by decide +kernel)
set_option maxRecDepth 20000 in
theorem gX5_bring_X2_append : GoodIn wsX5_bring (wsV RX5 114 RX2 yX2_append wsX2_append) := goodIn_app (goodIn_of _ (by decide +kernel)) ggX5_bring_X2_append
theorem dX5_bring_0 : decode cX5_bring 0 = .ok (.aload_n 0, 1) := by decide +kernel
theorem dX5_bring_1 : decode cX5_bring 1 = .ok (.getfield 10, 3) := by decide +kernel
theorem dX5_bring_4 : decode cX5_bring 4 = .ok (.getfield 82, 3) := by decide +kernel
theorem dX5_bring_7 : decode cX5_bring 7 = .ok (.iload_n 1, 1) := by decide +kernel
theorem dX5_bring_8 : decode cX5_bring 8 = .ok (.invokevirtual 94, 3) := by decide +kernel
theorem dX5_bring_11 : decode cX5_bring 11 = .ok (.ifCond .ne 13, 3) := by decide +kernel
theorem dX5_bring_14 : decode cX5_bring 14 = .ok (.new 98, 3) := by decide +kernel
theorem dX5_bring_17 : decode cX5_bring 17 = .ok (.dup, 1) := by decide +kernel
theorem dX5_bring_18 : decode cX5_bring 18 = .ok (.ldc 100, 2) := by decide +kernel
theorem dX5_bring_20 : decode cX5_bring 20 = .ok (.invokespecial 102, 3) := by decide +kernel
theorem dX5_bring_23 : decode cX5_bring 23 = .ok (.athrow, 1) := by decide +kernel
theorem dX5_bring_24 : decode cX5_bring 24 = .ok (.iload_n 2, 1) := by decide +kernel
theorem dX5_bring_25 : decode cX5_bring 25 = .ok (.iconst 1, 1) := by decide +kernel
theorem dX5_bring_26 : decode cX5_bring 26 = .ok (.bipush 9, 2) := by decide +kernel
theorem dX5_bring_28 : decode cX5_bring 28 = .ok (.invokestatic 19, 3) := by decide +kernel
theorem dX5_bring_31 : decode cX5_bring 31 = .ok (.ifCond .eq 13, 3) := by decide +kernel
theorem dX5_bring_34 : decode cX5_bring 34 = .ok (.iload_n 3, 1) := by decide +kernel
theorem dX5_bring_35 : decode cX5_bring 35 = .ok (.iconst 1, 1) := by decide +kernel
theorem dX5_bring_36 : decode cX5_bring 36 = .ok (.bipush 60, 2) := by decide +kernel
theorem dX5_bring_38 : decode cX5_bring 38 = .ok (.invokestatic 19, 3) := by decide +kernel
theorem dX5_bring_41 : decode cX5_bring 41 = .ok (.ifCond .ne 13, 3) := by decide +kernel
theorem dX5_bring_44 : decode cX5_bring 44 = .ok (.new 23, 3) := by decide +kernel
theorem dX5_bring_47 : decode cX5_bring 47 = .ok (.dup, 1) := by decide +kernel
theorem dX5_bring_48 : decode cX5_bring 48 = .ok (.ldc 103, 2) := by decide +kernel
theorem dX5_bring_50 : decode cX5_bring 50 = .ok (.invokespecial 27, 3) := by decide +kernel
theorem dX5_bring_53 : decode cX5_bring 53 = .ok (.athrow, 1) := by decide +kernel
theorem dX5_bring_54 : decode cX5_bring 54 = .ok (.aload_n 0, 1) := by decide +kernel
theorem dX5_bring_55 : decode cX5_bring 55 = .ok (.getfield 10, 3) := by decide +kernel
theorem dX5_bring_58 : decode cX5_bring 58 = .ok (.getfield 105, 3) := by decide +kernel
theorem dX5_bring_61 : decode cX5_bring 61 = .ok (.getfield 109, 3) := by decide +kernel
theorem dX5_bring_64 : decode cX5_bring 64 = .ok (.sipush 150, 3) := by decide +kernel
theorem dX5_bring_67 : decode cX5_bring 67 = .ok (.if_icmp .lt 13, 3) := by decide +kernel
theorem dX5_bring_70 : decode cX5_bring 70 = .ok (.new 44, 3) := by decide +kernel
theorem dX5_bring_73 : decode cX5_bring 73 = .ok (.dup, 1) := by decide +kernel
theorem dX5_bring_74 : decode cX5_bring 74 = .ok (.ldc 112, 2) := by decide +kernel
theorem dX5_bring_76 : decode cX5_bring 76 = .ok (.invokespecial 48, 3) := by decide +kernel
theorem dX5_bring_79 : decode cX5_bring 79 = .ok (.athrow, 1) := by decide +kernel
theorem dX5_bring_80 : decode cX5_bring 80 = .ok (.aload_n 0, 1) := by decide +kernel
theorem dX5_bring_81 : decode cX5_bring 81 = .ok (.getfield 10, 3) := by decide +kernel
theorem dX5_bring_84 : decode cX5_bring 84 = .ok (.getfield 105, 3) := by decide +kernel
theorem dX5_bring_87 : decode cX5_bring 87 = .ok (.iload_n 1, 1) := by decide +kernel
theorem dX5_bring_88 : decode cX5_bring 88 = .ok (.iload_n 2, 1) := by decide +kernel
theorem dX5_bring_89 : decode cX5_bring 89 = .ok (.iload_n 3, 1) := by decide +kernel
theorem dX5_bring_90 : decode cX5_bring 90 = .ok (.invokevirtual 114, 3) := by decide +kernel
theorem dX5_bring_93 : decode cX5_bring 93 = .ok (.ireturn, 1) := by decide +kernel
set_option maxRecDepth 20000 in
theorem ggX5_takeOut_X2_has : GoodIn wsX5_takeOut wsX2_has := goodIn_r _ [13, 14, 68, 69, 70, 71, 72, 73, 74, 75, 76, 77] (by decide +kernel) (by decide +kernel)
set_option maxRecDepth 20000 in
theorem gX5_takeOut_X2_has : GoodIn wsX5_takeOut (wsV RX5 115 RX2 yX2_has wsX2_has) := goodIn_app (goodIn_of _ (by decide +kernel)) ggX5_takeOut_X2_has
set_option maxRecDepth 20000 in
theorem ggX5_takeOut_X0_has : GoodIn wsX5_takeOut wsX0_has := goodIn_r _ [19, 20, 78, 79, 80, 81] (by decide +kernel) (by decide +kernel)
set_option maxRecDepth 20000 in
theorem gX5_takeOut_X0_has : GoodIn wsX5_takeOut (wsV RX5 122 RX0 yX0_has wsX0_has) := goodIn_app (goodIn_of _ (by decide +kernel)) ggX5_takeOut_X0_has
set_option maxRecDepth 20000 in
theorem ggX5_takeOut_X3_tideNow : GoodIn wsX5_takeOut wsX3_tideNow := goodIn_r _ [25, 26, 27, 28, 29, 30, 31, 32, 33, 34, 35, 36, 37, 38, 58, 59, 60, 61, 62, 63, 64, 65, 66, 67, 82, 83] (by decide +kernel) (by decide +kernel)
set_option maxRecDepth 20000 in
theorem gX5_takeOut_X3_tideNow : GoodIn wsX5_takeOut (wsV RX5 125 RX3 yX3_tideNow wsX3_tideNow) := goodIn_app (goodIn_of _ (by decide +kernel)) ggX5_takeOut_X3_tideNow
set_option maxRecDepth 20000 in
theorem ggX5_takeOut_X0_isUnder : GoodIn wsX5_takeOut wsX0_isUnder := goodIn_r _ [42, 20, 43, 78, 79, 80, 81] (by decide +kernel) (by decide +kernel)
set_option maxRecDepth 20000 in
theorem gX5_takeOut_X0_isUnder : GoodIn wsX5_takeOut (wsV RX5 129 RX0 yX0_isUnder wsX0_isUnder) := goodIn_app (goodIn_of _ (by decide +kernel)) ggX5_takeOut_X0_isUnder
set_option maxRecDepth 20000 in
theorem ggX5_takeOut_X3_leaveBin : GoodIn wsX5_takeOut wsX3_leaveBin := goodIn_r _ [47, 48, 49, 50, 51, 52, 53, 54, 10, 11, 12, 13, 14, 55, 16, 17, 18, 19, 20, 58, 59, 60, 61, 62, 63, 64, 65, 66, 67, 68, 69, 70, 71, 72, 73, 74, 75, 76, 77, 78, 79, 80, 81] (by decide +kernel) (by decide +kernel)
set_option maxRecDepth 20000 in
theorem gX5_takeOut_X3_leaveBin : GoodIn wsX5_takeOut (wsV RX5 135 RX3 yX3_leaveBin wsX3_leaveBin) := goodIn_app (goodIn_of _ (by decide +kernel)) ggX5_takeOut_X3_leaveBin
theorem dX5_takeOut_0 : decode cX5_takeOut 0 = .ok (.aload_n 0, 1) := by decide +kernel
theorem dX5_takeOut_1 : decode cX5_takeOut 1 = .ok (.getfield 10, 3) := by decide +kernel
theorem dX5_takeOut_4 : decode cX5_takeOut 4 = .ok (.getfield 105, 3) := by decide +kernel
theorem dX5_takeOut_7 : decode cX5_takeOut 7 = .ok (.iload_n 1, 1) := by decide +kernel
theorem dX5_takeOut_8 : decode cX5_takeOut 8 = .ok (.invokevirtual 115, 3) := by decide +kernel
theorem dX5_takeOut_11 : decode cX5_takeOut 11 = .ok (.ifCond .ne 13, 3) := by decide +kernel
theorem dX5_takeOut_14 : decode cX5_takeOut 14 = .ok (.new 98, 3) := by decide +kernel
theorem dX5_takeOut_17 : decode cX5_takeOut 17 = .ok (.dup, 1) := by decide +kernel
theorem dX5_takeOut_18 : decode cX5_takeOut 18 = .ok (.ldc 116, 2) := by decide +kernel
theorem dX5_takeOut_20 : decode cX5_takeOut 20 = .ok (.invokespecial 102, 3) := by decide +kernel
theorem dX5_takeOut_23 : decode cX5_takeOut 23 = .ok (.athrow, 1) := by decide +kernel
theorem dX5_takeOut_24 : decode cX5_takeOut 24 = .ok (.aload_n 0, 1) := by decide +kernel
theorem dX5_takeOut_25 : decode cX5_takeOut 25 = .ok (.getfield 10, 3) := by decide +kernel
theorem dX5_takeOut_28 : decode cX5_takeOut 28 = .ok (.getfield 105, 3) := by decide +kernel
theorem dX5_takeOut_31 : decode cX5_takeOut 31 = .ok (.getfield 118, 3) := by decide +kernel
theorem dX5_takeOut_34 : decode cX5_takeOut 34 = .ok (.iload_n 1, 1) := by decide +kernel
theorem dX5_takeOut_35 : decode cX5_takeOut 35 = .ok (.iaload, 1) := by decide +kernel
theorem dX5_takeOut_36 : decode cX5_takeOut 36 = .ok (.istore_n 2, 1) := by decide +kernel
theorem dX5_takeOut_37 : decode cX5_takeOut 37 = .ok (.aload_n 0, 1) := by decide +kernel
theorem dX5_takeOut_38 : decode cX5_takeOut 38 = .ok (.getfield 10, 3) := by decide +kernel
theorem dX5_takeOut_41 : decode cX5_takeOut 41 = .ok (.getfield 60, 3) := by decide +kernel
theorem dX5_takeOut_44 : decode cX5_takeOut 44 = .ok (.iload_n 2, 1) := by decide +kernel
theorem dX5_takeOut_45 : decode cX5_takeOut 45 = .ok (.invokevirtual 122, 3) := by decide +kernel
theorem dX5_takeOut_48 : decode cX5_takeOut 48 = .ok (.ifCond .ne 13, 3) := by decide +kernel
theorem dX5_takeOut_51 : decode cX5_takeOut 51 = .ok (.new 44, 3) := by decide +kernel
theorem dX5_takeOut_54 : decode cX5_takeOut 54 = .ok (.dup, 1) := by decide +kernel
theorem dX5_takeOut_55 : decode cX5_takeOut 55 = .ok (.ldc 123, 2) := by decide +kernel
theorem dX5_takeOut_57 : decode cX5_takeOut 57 = .ok (.invokespecial 48, 3) := by decide +kernel
theorem dX5_takeOut_60 : decode cX5_takeOut 60 = .ok (.athrow, 1) := by decide +kernel
theorem dX5_takeOut_61 : decode cX5_takeOut 61 = .ok (.aload_n 0, 1) := by decide +kernel
theorem dX5_takeOut_62 : decode cX5_takeOut 62 = .ok (.getfield 10, 3) := by decide +kernel
theorem dX5_takeOut_65 : decode cX5_takeOut 65 = .ok (.getfield 60, 3) := by decide +kernel
theorem dX5_takeOut_68 : decode cX5_takeOut 68 = .ok (.iload_n 2, 1) := by decide +kernel
theorem dX5_takeOut_69 : decode cX5_takeOut 69 = .ok (.aload_n 0, 1) := by decide +kernel
theorem dX5_takeOut_70 : decode cX5_takeOut 70 = .ok (.getfield 10, 3) := by decide +kernel
theorem dX5_takeOut_73 : decode cX5_takeOut 73 = .ok (.invokevirtual 125, 3) := by decide +kernel
theorem dX5_takeOut_76 : decode cX5_takeOut 76 = .ok (.invokevirtual 129, 3) := by decide +kernel
theorem dX5_takeOut_79 : decode cX5_takeOut 79 = .ok (.ifCond .eq 13, 3) := by decide +kernel
theorem dX5_takeOut_82 : decode cX5_takeOut 82 = .ok (.new 44, 3) := by decide +kernel
theorem dX5_takeOut_85 : decode cX5_takeOut 85 = .ok (.dup, 1) := by decide +kernel
theorem dX5_takeOut_86 : decode cX5_takeOut 86 = .ok (.ldc 133, 2) := by decide +kernel
theorem dX5_takeOut_88 : decode cX5_takeOut 88 = .ok (.invokespecial 48, 3) := by decide +kernel
theorem dX5_takeOut_91 : decode cX5_takeOut 91 = .ok (.athrow, 1) := by decide +kernel
theorem dX5_takeOut_92 : decode cX5_takeOut 92 = .ok (.aload_n 0, 1) := by decide +kernel
theorem dX5_takeOut_93 : decode cX5_takeOut 93 = .ok (.getfield 10, 3) := by decide +kernel
theorem dX5_takeOut_96 : decode cX5_takeOut 96 = .ok (.iload_n 1, 1) := by decide +kernel
theorem dX5_takeOut_97 : decode cX5_takeOut 97 = .ok (.iconst 0, 1) := by decide +kernel
theorem dX5_takeOut_98 : decode cX5_takeOut 98 = .ok (.invokevirtual 135, 3) := by decide +kernel
theorem dX5_takeOut_101 : decode cX5_takeOut 101 = .ok (.iload_n 2, 1) := by decide +kernel
theorem dX5_takeOut_102 : decode cX5_takeOut 102 = .ok (.ireturn, 1) := by decide +kernel
set_option maxRecDepth 20000 in
theorem ggX5_letter_X2_has : GoodIn wsX5_letter wsX2_has := goodIn_r _ [9, 10, 41, 42, 43, 44, 45, 46, 47, 48, 49, 50] (by decide +kernel) (by decide +kernel)
set_option maxRecDepth 20000 in
theorem gX5_letter_X2_has : GoodIn wsX5_letter (wsV RX5 115 RX2 yX2_has wsX2_has) := goodIn_app (goodIn_of _ (by decide +kernel)) ggX5_letter_X2_has
set_option maxRecDepth 20000 in
theorem ggX5_letter_X5_isWithin : GoodIn wsX5_letter wsX5_isWithin := goodIn_r _ [14] (by decide +kernel) (by decide +kernel)
set_option maxRecDepth 20000 in
theorem gX5_letter_X5_isWithin : GoodIn wsX5_letter (va_wsS RX5 19 yX5_isWithin wsX5_isWithin) := goodIn_app (goodIn_of _ (by decide +kernel)) ggX5_letter_X5_isWithin
set_option maxRecDepth 20000 in
theorem ggX5_letter_X2_fact : GoodIn wsX5_letter wsX2_fact := goodIn_r _ [18, 19, 20, 21, 22, 23, 24, 25, 26, 27, 28, 6, 7, 8, 9, 10, 41, 42, 43, 44, 45, 46, 47, 48, 49, 50] (by decide +kernel) (by decide +kernel)
set_option maxRecDepth 20000 in
theorem gX5_letter_X2_fact : GoodIn wsX5_letter (wsV RX5 141 RX2 yX2_fact wsX2_fact) := goodIn_app (goodIn_of _ (by decide +kernel)) ggX5_letter_X2_fact
theorem dX5_letter_0 : decode cX5_letter 0 = .ok (.aload_n 0, 1) := by decide +kernel
theorem dX5_letter_1 : decode cX5_letter 1 = .ok (.getfield 10, 3) := by decide +kernel
theorem dX5_letter_4 : decode cX5_letter 4 = .ok (.getfield 105, 3) := by decide +kernel
theorem dX5_letter_7 : decode cX5_letter 7 = .ok (.iload_n 1, 1) := by decide +kernel
theorem dX5_letter_8 : decode cX5_letter 8 = .ok (.invokevirtual 115, 3) := by decide +kernel
theorem dX5_letter_11 : decode cX5_letter 11 = .ok (.ifCond .eq 13, 3) := by decide +kernel
theorem dX5_letter_14 : decode cX5_letter 14 = .ok (.iload_n 2, 1) := by decide +kernel
theorem dX5_letter_15 : decode cX5_letter 15 = .ok (.iconst 0, 1) := by decide +kernel
theorem dX5_letter_16 : decode cX5_letter 16 = .ok (.bipush 8, 2) := by decide +kernel
theorem dX5_letter_18 : decode cX5_letter 18 = .ok (.invokestatic 19, 3) := by decide +kernel
theorem dX5_letter_21 : decode cX5_letter 21 = .ok (.ifCond .ne 13, 3) := by decide +kernel
theorem dX5_letter_24 : decode cX5_letter 24 = .ok (.new 98, 3) := by decide +kernel
theorem dX5_letter_27 : decode cX5_letter 27 = .ok (.dup, 1) := by decide +kernel
theorem dX5_letter_28 : decode cX5_letter 28 = .ok (.ldc 139, 2) := by decide +kernel
theorem dX5_letter_30 : decode cX5_letter 30 = .ok (.invokespecial 102, 3) := by decide +kernel
theorem dX5_letter_33 : decode cX5_letter 33 = .ok (.athrow, 1) := by decide +kernel
theorem dX5_letter_34 : decode cX5_letter 34 = .ok (.aload_n 0, 1) := by decide +kernel
theorem dX5_letter_35 : decode cX5_letter 35 = .ok (.getfield 10, 3) := by decide +kernel
theorem dX5_letter_38 : decode cX5_letter 38 = .ok (.getfield 105, 3) := by decide +kernel
theorem dX5_letter_41 : decode cX5_letter 41 = .ok (.iload_n 1, 1) := by decide +kernel
theorem dX5_letter_42 : decode cX5_letter 42 = .ok (.iload_n 2, 1) := by decide +kernel
theorem dX5_letter_43 : decode cX5_letter 43 = .ok (.invokevirtual 141, 3) := by decide +kernel
theorem dX5_letter_46 : decode cX5_letter 46 = .ok (.ireturn, 1) := by decide +kernel
set_option maxRecDepth 20000 in
theorem ggX5_drowned_X1_has : GoodIn wsX5_drowned wsX1_has := goodIn_r _ [9, 10, 37, 38, 39, 40, 41, 42] (by decide +kernel) (by decide +kernel)
set_option maxRecDepth 20000 in
theorem gX5_drowned_X1_has : GoodIn wsX5_drowned (wsV RX5 94 RX1 yX1_has wsX1_has) := goodIn_app (goodIn_of _ (by decide +kernel)) ggX5_drowned_X1_has
set_option maxRecDepth 20000 in
theorem ggX5_drowned_X5_isWithin : GoodIn wsX5_drowned wsX5_isWithin := goodIn_r _ [14] (by decide +kernel) (by decide +kernel)
set_option maxRecDepth 20000 in
theorem gX5_drowned_X5_isWithin : GoodIn wsX5_drowned (va_wsS RX5 19 yX5_isWithin wsX5_isWithin) := goodIn_app (goodIn_of _ (by decide +kernel)) ggX5_drowned_X5_isWithin
set_option maxRecDepth 20000 in
theorem ggX5_drowned_X1_fact : GoodIn wsX5_drowned wsX1_fact := goodIn_r _ [18, 19, 20, 21, 22, 23, 24, 6, 7, 8, 9, 10, 37, 38, 39, 40, 41, 42] (by decide +kernel) (by decide +kernel)
set_option maxRecDepth 20000 in
theorem gX5_drowned_X1_fact : GoodIn wsX5_drowned (wsV RX5 146 RX1 yX1_fact wsX1_fact) := goodIn_app (goodIn_of _ (by decide +kernel)) ggX5_drowned_X1_fact
theorem dX5_drowned_0 : decode cX5_drowned 0 = .ok (.aload_n 0, 1) := by decide +kernel
theorem dX5_drowned_1 : decode cX5_drowned 1 = .ok (.getfield 10, 3) := by decide +kernel
theorem dX5_drowned_4 : decode cX5_drowned 4 = .ok (.getfield 82, 3) := by decide +kernel
theorem dX5_drowned_7 : decode cX5_drowned 7 = .ok (.iload_n 1, 1) := by decide +kernel
theorem dX5_drowned_8 : decode cX5_drowned 8 = .ok (.invokevirtual 94, 3) := by decide +kernel
theorem dX5_drowned_11 : decode cX5_drowned 11 = .ok (.ifCond .eq 12, 3) := by decide +kernel
theorem dX5_drowned_14 : decode cX5_drowned 14 = .ok (.iload_n 2, 1) := by decide +kernel
theorem dX5_drowned_15 : decode cX5_drowned 15 = .ok (.iconst 0, 1) := by decide +kernel
theorem dX5_drowned_16 : decode cX5_drowned 16 = .ok (.iconst 4, 1) := by decide +kernel
theorem dX5_drowned_17 : decode cX5_drowned 17 = .ok (.invokestatic 19, 3) := by decide +kernel
theorem dX5_drowned_20 : decode cX5_drowned 20 = .ok (.ifCond .ne 13, 3) := by decide +kernel
theorem dX5_drowned_23 : decode cX5_drowned 23 = .ok (.new 98, 3) := by decide +kernel
theorem dX5_drowned_26 : decode cX5_drowned 26 = .ok (.dup, 1) := by decide +kernel
theorem dX5_drowned_27 : decode cX5_drowned 27 = .ok (.ldc 144, 2) := by decide +kernel
theorem dX5_drowned_29 : decode cX5_drowned 29 = .ok (.invokespecial 102, 3) := by decide +kernel
theorem dX5_drowned_32 : decode cX5_drowned 32 = .ok (.athrow, 1) := by decide +kernel
theorem dX5_drowned_33 : decode cX5_drowned 33 = .ok (.aload_n 0, 1) := by decide +kernel
theorem dX5_drowned_34 : decode cX5_drowned 34 = .ok (.getfield 10, 3) := by decide +kernel
theorem dX5_drowned_37 : decode cX5_drowned 37 = .ok (.getfield 82, 3) := by decide +kernel
theorem dX5_drowned_40 : decode cX5_drowned 40 = .ok (.iload_n 1, 1) := by decide +kernel
theorem dX5_drowned_41 : decode cX5_drowned 41 = .ok (.iload_n 2, 1) := by decide +kernel
theorem dX5_drowned_42 : decode cX5_drowned 42 = .ok (.invokevirtual 146, 3) := by decide +kernel
theorem dX5_drowned_45 : decode cX5_drowned 45 = .ok (.ireturn, 1) := by decide +kernel
set_option maxRecDepth 20000 in
theorem ggX5_bin_X0_has : GoodIn wsX5_bin wsX0_has := goodIn_r _ [9, 10, 69, 70, 71, 72] (by decide +kernel) (by decide +kernel)
set_option maxRecDepth 20000 in
theorem gX5_bin_X0_has : GoodIn wsX5_bin (wsV RX5 122 RX0 yX0_has wsX0_has) := goodIn_app (goodIn_of _ (by decide +kernel)) ggX5_bin_X0_has
set_option maxRecDepth 20000 in
theorem ggX5_bin_X5_isWithin : GoodIn wsX5_bin wsX5_isWithin := goodIn_r _ [14] (by decide +kernel) (by decide +kernel)
set_option maxRecDepth 20000 in
theorem gX5_bin_X5_isWithin : GoodIn wsX5_bin (va_wsS RX5 19 yX5_isWithin wsX5_isWithin) := goodIn_app (goodIn_of _ (by decide +kernel)) ggX5_bin_X5_isWithin
set_option maxRecDepth 20000 in
theorem ggX5_bin_X3_binFact : GoodIn wsX5_bin wsX3_binFact := goodIn_r _ [19, 20, 21, 22, 23, 24, 25, 6, 7, 8, 9, 10, 26, 27, 28, 18, 29, 30, 31, 32, 33, 34, 35, 36, 37, 38, 39, 40, 41, 42, 43, 44, 45, 46, 47, 48, 49, 50, 51, 52, 53, 54, 55, 56, 59, 60, 61, 62, 63, 64, 65, 66, 67, 68, 69, 70, 71, 72, 73, 74, 75, 76, 77, 78, 79, 80, 81, 82, 83, 84] (by decide +kernel) (by decide +kernel)
set_option maxRecDepth 20000 in
theorem gX5_bin_X3_binFact : GoodIn wsX5_bin (wsV RX5 149 RX3 yX3_binFact wsX3_binFact) := goodIn_app (goodIn_of _ (by decide +kernel)) ggX5_bin_X3_binFact
theorem dX5_bin_0 : decode cX5_bin 0 = .ok (.aload_n 0, 1) := by decide +kernel
theorem dX5_bin_1 : decode cX5_bin 1 = .ok (.getfield 10, 3) := by decide +kernel
theorem dX5_bin_4 : decode cX5_bin 4 = .ok (.getfield 60, 3) := by decide +kernel
theorem dX5_bin_7 : decode cX5_bin 7 = .ok (.iload_n 1, 1) := by decide +kernel
theorem dX5_bin_8 : decode cX5_bin 8 = .ok (.invokevirtual 122, 3) := by decide +kernel
theorem dX5_bin_11 : decode cX5_bin 11 = .ok (.ifCond .eq 12, 3) := by decide +kernel
theorem dX5_bin_14 : decode cX5_bin 14 = .ok (.iload_n 2, 1) := by decide +kernel
theorem dX5_bin_15 : decode cX5_bin 15 = .ok (.iconst 0, 1) := by decide +kernel
theorem dX5_bin_16 : decode cX5_bin 16 = .ok (.iconst 4, 1) := by decide +kernel
theorem dX5_bin_17 : decode cX5_bin 17 = .ok (.invokestatic 19, 3) := by decide +kernel
theorem dX5_bin_20 : decode cX5_bin 20 = .ok (.ifCond .ne 13, 3) := by decide +kernel
theorem dX5_bin_23 : decode cX5_bin 23 = .ok (.new 98, 3) := by decide +kernel
theorem dX5_bin_26 : decode cX5_bin 26 = .ok (.dup, 1) := by decide +kernel
theorem dX5_bin_27 : decode cX5_bin 27 = .ok (.ldc 147, 2) := by decide +kernel
theorem dX5_bin_29 : decode cX5_bin 29 = .ok (.invokespecial 102, 3) := by decide +kernel
theorem dX5_bin_32 : decode cX5_bin 32 = .ok (.athrow, 1) := by decide +kernel
theorem dX5_bin_33 : decode cX5_bin 33 = .ok (.aload_n 0, 1) := by decide +kernel
theorem dX5_bin_34 : decode cX5_bin 34 = .ok (.getfield 10, 3) := by decide +kernel
theorem dX5_bin_37 : decode cX5_bin 37 = .ok (.iload_n 1, 1) := by decide +kernel
theorem dX5_bin_38 : decode cX5_bin 38 = .ok (.iload_n 2, 1) := by decide +kernel
theorem dX5_bin_39 : decode cX5_bin 39 = .ok (.invokevirtual 149, 3) := by decide +kernel
theorem dX5_bin_42 : decode cX5_bin 42 = .ok (.ireturn, 1) := by decide +kernel
set_option maxRecDepth 20000 in
theorem ggX5_pass_X5_isWithin : GoodIn wsX5_pass wsX5_isWithin := goodIn_r _ [7] (by decide +kernel) (by decide +kernel)
set_option maxRecDepth 20000 in
theorem gX5_pass_X5_isWithin : GoodIn wsX5_pass (va_wsS RX5 19 yX5_isWithin wsX5_isWithin) := goodIn_app (goodIn_of _ (by decide +kernel)) ggX5_pass_X5_isWithin
set_option maxRecDepth 20000 in
theorem ggX5_pass_X3_letGoBy : GoodIn wsX5_pass wsX3_letGoBy := goodIn_r _ [12, 13, 14, 15, 16, 11, 17, 18, 19, 20, 21, 22, 23, 24, 25, 26, 27, 28, 29, 30, 31, 32, 33, 34, 35, 36, 37, 38, 39, 40, 41, 42, 43, 44, 45, 46, 47, 48, 49, 50, 51, 52, 53, 54, 55, 56, 57, 58, 59, 60, 61, 62, 63, 64, 65, 66, 67, 68, 69, 70, 71, 72, 73, 74, 75, 76, 77, 78, 79, 80, 81, 82, 83, 84, 85, 86, 87, 88, 89, 90, 91, 92, 93, 94, 95, 96, 97, 98, 99, 100, 101, 102, 103, 104, 105, 106, 107, 108, 109, 110, 111, 112, 113, 114, 115, 116, 117, 118, 119, 120, 121, 122, 123, 124, 125, 126, 127, 128, 129, 130, 131, 132, 133, 134, 135, 136, 137, 138, 139, 140, 141, 142, 143, 144, 145, 146, 147, 148, 149, 150, 151, 152, 153, 154, 155, 156, 157, 158, 159, 160, 161, 162, 165, 166, 167, 168, 169, 170, 171, 172, 173, 174, 175, 176, 177, 178, 179, 180, 181, 182, 183, 184, 185, 186, 187, 188, 189, 190, 191, 192, 193, 194, 195, 196] (by decide +kernel) (by decide +kernel)
set_option maxRecDepth 20000 in
theorem gX5_pass_X3_letGoBy : GoodIn wsX5_pass (wsV RX5 154 RX3 yX3_letGoBy wsX3_letGoBy) := goodIn_app (goodIn_of _ (by decide +kernel)) ggX5_pass_X3_letGoBy
theorem dX5_pass_0 : decode cX5_pass 0 = .ok (.iload_n 1, 1) := by decide +kernel
theorem dX5_pass_1 : decode cX5_pass 1 = .ok (.iconst 1, 1) := by decide +kernel
theorem dX5_pass_2 : decode cX5_pass 2 = .ok (.sipush 200, 3) := by decide +kernel
theorem dX5_pass_5 : decode cX5_pass 5 = .ok (.invokestatic 19, 3) := by decide +kernel
theorem dX5_pass_8 : decode cX5_pass 8 = .ok (.ifCond .ne 13, 3) := by decide +kernel
theorem dX5_pass_11 : decode cX5_pass 11 = .ok (.new 23, 3) := by decide +kernel
theorem dX5_pass_14 : decode cX5_pass 14 = .ok (.dup, 1) := by decide +kernel
theorem dX5_pass_15 : decode cX5_pass 15 = .ok (.ldc 152, 2) := by decide +kernel
theorem dX5_pass_17 : decode cX5_pass 17 = .ok (.invokespecial 27, 3) := by decide +kernel
theorem dX5_pass_20 : decode cX5_pass 20 = .ok (.athrow, 1) := by decide +kernel
theorem dX5_pass_21 : decode cX5_pass 21 = .ok (.aload_n 0, 1) := by decide +kernel
theorem dX5_pass_22 : decode cX5_pass 22 = .ok (.getfield 10, 3) := by decide +kernel
theorem dX5_pass_25 : decode cX5_pass 25 = .ok (.iload_n 1, 1) := by decide +kernel
theorem dX5_pass_26 : decode cX5_pass 26 = .ok (.invokevirtual 154, 3) := by decide +kernel
theorem dX5_pass_29 : decode cX5_pass 29 = .ok (.ireturn, 1) := by decide +kernel
set_option maxRecDepth 20000 in
theorem ggX5_count_X5_isWithin : GoodIn wsX5_count wsX5_isWithin := goodIn_r _ [7] (by decide +kernel) (by decide +kernel)
set_option maxRecDepth 20000 in
theorem gX5_count_X5_isWithin : GoodIn wsX5_count (va_wsS RX5 19 yX5_isWithin wsX5_isWithin) := goodIn_app (goodIn_of _ (by decide +kernel)) ggX5_count_X5_isWithin
set_option maxRecDepth 20000 in
theorem ggX5_count_X3_total : GoodIn wsX5_count wsX3_total := goodIn_r _ [12, 13, 14, 15, 16, 17, 18, 19, 20, 21, 22, 23, 24, 25, 26, 27, 28, 29, 30, 33, 34, 35, 36, 37, 38, 39, 40, 41, 42, 43, 44, 45, 46, 47, 48, 49, 50, 51, 52, 53, 54, 55, 56, 57, 58, 59, 60, 61, 62, 63, 64] (by decide +kernel) (by decide +kernel)
set_option maxRecDepth 20000 in
theorem gX5_count_X3_total : GoodIn wsX5_count (wsV RX5 159 RX3 yX3_total wsX3_total) := goodIn_app (goodIn_of _ (by decide +kernel)) ggX5_count_X3_total
theorem dX5_count_0 : decode cX5_count 0 = .ok (.iload_n 1, 1) := by decide +kernel
theorem dX5_count_1 : decode cX5_count 1 = .ok (.iconst 0, 1) := by decide +kernel
theorem dX5_count_2 : decode cX5_count 2 = .ok (.bipush 12, 2) := by decide +kernel
theorem dX5_count_4 : decode cX5_count 4 = .ok (.invokestatic 19, 3) := by decide +kernel
theorem dX5_count_7 : decode cX5_count 7 = .ok (.ifCond .ne 13, 3) := by decide +kernel
theorem dX5_count_10 : decode cX5_count 10 = .ok (.new 98, 3) := by decide +kernel
theorem dX5_count_13 : decode cX5_count 13 = .ok (.dup, 1) := by decide +kernel
theorem dX5_count_14 : decode cX5_count 14 = .ok (.ldc 157, 2) := by decide +kernel
theorem dX5_count_16 : decode cX5_count 16 = .ok (.invokespecial 102, 3) := by decide +kernel
theorem dX5_count_19 : decode cX5_count 19 = .ok (.athrow, 1) := by decide +kernel
theorem dX5_count_20 : decode cX5_count 20 = .ok (.aload_n 0, 1) := by decide +kernel
theorem dX5_count_21 : decode cX5_count 21 = .ok (.getfield 10, 3) := by decide +kernel
theorem dX5_count_24 : decode cX5_count 24 = .ok (.iload_n 1, 1) := by decide +kernel
theorem dX5_count_25 : decode cX5_count 25 = .ok (.invokevirtual 159, 3) := by decide +kernel
theorem dX5_count_28 : decode cX5_count 28 = .ok (.ireturn, 1) := by decide +kernel
set_option maxRecDepth 20000 in
theorem ggX5_binFor_X1_has : GoodIn wsX5_binFor wsX1_has := goodIn_r _ [10, 11, 47, 48, 49, 50, 51, 52] (by decide +kernel) (by decide +kernel)
set_option maxRecDepth 20000 in
theorem gX5_binFor_X1_has : GoodIn wsX5_binFor (wsV RX5 94 RX1 yX1_has wsX1_has) := goodIn_app (goodIn_of _ (by decide +kernel)) ggX5_binFor_X1_has
set_option maxRecDepth 20000 in
theorem ggX5_binFor_X1_heightOf : GoodIn wsX5_binFor wsX1_heightOf := goodIn_r _ [15, 16, 17, 7, 8, 9, 10, 11, 47, 48, 49, 50, 51, 52] (by decide +kernel) (by decide +kernel)
set_option maxRecDepth 20000 in
theorem gX5_binFor_X1_heightOf : GoodIn wsX5_binFor (wsV RX5 162 RX1 yX1_heightOf wsX1_heightOf) := goodIn_app (goodIn_of _ (by decide +kernel)) ggX5_binFor_X1_heightOf
set_option maxRecDepth 20000 in
theorem ggX5_binFor_X0_nearestWithRoom : GoodIn wsX5_binFor wsX0_nearestWithRoom := goodIn_r _ [22, 23, 24, 25, 26, 27, 28, 21, 29, 30, 31, 32, 33, 34, 53, 54, 55, 56] (by decide +kernel) (by decide +kernel)
set_option maxRecDepth 20000 in
theorem gX5_binFor_X0_nearestWithRoom : GoodIn wsX5_binFor (wsV RX5 165 RX0 yX0_nearestWithRoom wsX0_nearestWithRoom) := goodIn_app (goodIn_of _ (by decide +kernel)) ggX5_binFor_X0_nearestWithRoom
theorem dX5_binFor_0 : decode cX5_binFor 0 = .ok (.aload_n 0, 1) := by decide +kernel
theorem dX5_binFor_1 : decode cX5_binFor 1 = .ok (.getfield 10, 3) := by decide +kernel
theorem dX5_binFor_4 : decode cX5_binFor 4 = .ok (.getfield 82, 3) := by decide +kernel
theorem dX5_binFor_7 : decode cX5_binFor 7 = .ok (.iload_n 1, 1) := by decide +kernel
theorem dX5_binFor_8 : decode cX5_binFor 8 = .ok (.invokevirtual 94, 3) := by decide +kernel
theorem dX5_binFor_11 : decode cX5_binFor 11 = .ok (.ifCond .ne 13, 3) := by decide +kernel
theorem dX5_binFor_14 : decode cX5_binFor 14 = .ok (.new 98, 3) := by decide +kernel
theorem dX5_binFor_17 : decode cX5_binFor 17 = .ok (.dup, 1) := by decide +kernel
theorem dX5_binFor_18 : decode cX5_binFor 18 = .ok (.ldc 100, 2) := by decide +kernel
theorem dX5_binFor_20 : decode cX5_binFor 20 = .ok (.invokespecial 102, 3) := by decide +kernel
theorem dX5_binFor_23 : decode cX5_binFor 23 = .ok (.athrow, 1) := by decide +kernel
theorem dX5_binFor_24 : decode cX5_binFor 24 = .ok (.aload_n 0, 1) := by decide +kernel
theorem dX5_binFor_25 : decode cX5_binFor 25 = .ok (.getfield 10, 3) := by decide +kernel
theorem dX5_binFor_28 : decode cX5_binFor 28 = .ok (.getfield 60, 3) := by decide +kernel
theorem dX5_binFor_31 : decode cX5_binFor 31 = .ok (.aload_n 0, 1) := by decide +kernel
theorem dX5_binFor_32 : decode cX5_binFor 32 = .ok (.getfield 10, 3) := by decide +kernel
theorem dX5_binFor_35 : decode cX5_binFor 35 = .ok (.getfield 82, 3) := by decide +kernel
theorem dX5_binFor_38 : decode cX5_binFor 38 = .ok (.iload_n 1, 1) := by decide +kernel
theorem dX5_binFor_39 : decode cX5_binFor 39 = .ok (.invokevirtual 162, 3) := by decide +kernel
theorem dX5_binFor_42 : decode cX5_binFor 42 = .ok (.invokevirtual 165, 3) := by decide +kernel
theorem dX5_binFor_45 : decode cX5_binFor 45 = .ok (.ireturn, 1) := by decide +kernel
set_option maxRecDepth 20000 in
theorem ggX5_foresee_X5_isWithin : GoodIn wsX5_foresee wsX5_isWithin := goodIn_r _ [11] (by decide +kernel) (by decide +kernel)
set_option maxRecDepth 20000 in
theorem gX5_foresee_X5_isWithin : GoodIn wsX5_foresee (va_wsS RX5 19 yX5_isWithin wsX5_isWithin) := goodIn_app (goodIn_of _ (by decide +kernel)) ggX5_foresee_X5_isWithin
set_option maxRecDepth 20000 in
theorem ggX5_foresee_X3_copyFrom : GoodIn wsX5_foresee wsX3_copyFrom := goodIn_r _ [16, 17, 18, 19, 20, 21, 22, 23, 24, 25, 26, 27, 28, 29, 30, 31, 32, 33, 34, 35, 36, 37, 38, 39, 40, 41, 42, 43, 44, 45, 46, 47, 48, 49, 50, 51, 52, 53, 54, 55, 56, 57, 58, 59, 60, 61, 62, 63, 64, 65, 66, 67, 68, 69, 70, 71, 72, 202, 203, 204, 205, 206, 207, 208, 209, 210, 211, 212, 213, 214, 215, 216, 217, 218, 219, 220, 221, 222, 223, 224, 225, 226, 227, 228, 229, 230, 231, 232, 233] (by decide +kernel) (by decide +kernel)
set_option maxRecDepth 20000 in
theorem gX5_foresee_X3_copyFrom : GoodIn wsX5_foresee (wsV RX5 172 RX3 yX3_copyFrom wsX3_copyFrom) := goodIn_app (goodIn_of _ (by decide +kernel)) ggX5_foresee_X3_copyFrom
set_option maxRecDepth 20000 in
theorem ggX5_foresee_X3_letGoBy : GoodIn wsX5_foresee wsX3_letGoBy := goodIn_r _ [76, 77, 78, 79, 80, 15, 81, 20, 82, 21, 83, 84, 85, 86, 17, 87, 88, 89, 27, 90, 29, 30, 91, 92, 93, 94, 95, 96, 97, 98, 99, 100, 101, 102, 103, 18, 104, 105, 106, 19, 107, 108, 109, 110, 111, 112, 113, 38, 114, 40, 41, 115, 116, 117, 48, 118, 51, 119, 120, 121, 122, 50, 123, 124, 125, 126, 127, 128, 129, 130, 60, 131, 62, 132, 133, 134, 135, 136, 137, 138, 139, 140, 141, 142, 143, 144, 145, 55, 53, 146, 147, 148, 149, 63, 65, 66, 67, 71, 72, 150, 151, 152, 153, 154, 68, 69, 70, 155, 156, 157, 158, 159, 160, 161, 162, 163, 164, 22, 165, 166, 167, 168, 169, 170, 171, 172, 173, 174, 175, 176, 177, 178, 179, 180, 23, 181, 182, 183, 184, 185, 186, 187, 188, 44, 43, 189, 190, 191, 192, 193, 194, 195, 202, 203, 204, 205, 206, 207, 208, 209, 210, 211, 224, 225, 226, 227, 228, 229, 230, 231, 232, 233, 212, 213, 214, 215, 216, 217, 218, 219, 220, 221, 222, 223] (by decide +kernel) (by decide +kernel)
set_option maxRecDepth 20000 in
theorem gX5_foresee_X3_letGoBy : GoodIn wsX5_foresee (wsV RX5 154 RX3 yX3_letGoBy wsX3_letGoBy) := goodIn_app (goodIn_of _ (by decide +kernel)) ggX5_foresee_X3_letGoBy
set_option maxRecDepth 20000 in
theorem ggX5_foresee_X2_inState : GoodIn wsX5_foresee wsX2_inState := goodIn_r _ [199, 62, 67, 224, 225, 226, 227, 228, 229, 230, 231, 232, 233] (by decide +kernel) (by decide +kernel)
set_option maxRecDepth 20000 in
theorem gX5_foresee_X2_inState : GoodIn wsX5_foresee (wsV RX5 176 RX2 yX2_inState wsX2_inState) := goodIn_app (goodIn_of _ (by decide +kernel)) ggX5_foresee_X2_inState
theorem dX5_foresee_0 : decode cX5_foresee 0 = .ok (.iload_n 1, 1) := by decide +kernel
theorem dX5_foresee_1 : decode cX5_foresee 1 = .ok (.iconst 1, 1) := by decide +kernel
theorem dX5_foresee_2 : decode cX5_foresee 2 = .ok (.bipush 100, 2) := by decide +kernel
theorem dX5_foresee_4 : decode cX5_foresee 4 = .ok (.invokestatic 19, 3) := by decide +kernel
theorem dX5_foresee_7 : decode cX5_foresee 7 = .ok (.ifCond .ne 13, 3) := by decide +kernel
theorem dX5_foresee_10 : decode cX5_foresee 10 = .ok (.new 23, 3) := by decide +kernel
theorem dX5_foresee_13 : decode cX5_foresee 13 = .ok (.dup, 1) := by decide +kernel
theorem dX5_foresee_14 : decode cX5_foresee 14 = .ok (.ldc 168, 2) := by decide +kernel
theorem dX5_foresee_16 : decode cX5_foresee 16 = .ok (.invokespecial 27, 3) := by decide +kernel
theorem dX5_foresee_19 : decode cX5_foresee 19 = .ok (.athrow, 1) := by decide +kernel
theorem dX5_foresee_20 : decode cX5_foresee 20 = .ok (.iload_n 2, 1) := by decide +kernel
theorem dX5_foresee_21 : decode cX5_foresee 21 = .ok (.iconst 0, 1) := by decide +kernel
theorem dX5_foresee_22 : decode cX5_foresee 22 = .ok (.iconst 2, 1) := by decide +kernel
theorem dX5_foresee_23 : decode cX5_foresee 23 = .ok (.invokestatic 19, 3) := by decide +kernel
theorem dX5_foresee_26 : decode cX5_foresee 26 = .ok (.ifCond .ne 13, 3) := by decide +kernel
theorem dX5_foresee_29 : decode cX5_foresee 29 = .ok (.new 98, 3) := by decide +kernel
theorem dX5_foresee_32 : decode cX5_foresee 32 = .ok (.dup, 1) := by decide +kernel
theorem dX5_foresee_33 : decode cX5_foresee 33 = .ok (.ldc 170, 2) := by decide +kernel
theorem dX5_foresee_35 : decode cX5_foresee 35 = .ok (.invokespecial 102, 3) := by decide +kernel
theorem dX5_foresee_38 : decode cX5_foresee 38 = .ok (.athrow, 1) := by decide +kernel
theorem dX5_foresee_39 : decode cX5_foresee 39 = .ok (.aload_n 0, 1) := by decide +kernel
theorem dX5_foresee_40 : decode cX5_foresee 40 = .ok (.getfield 16, 3) := by decide +kernel
theorem dX5_foresee_43 : decode cX5_foresee 43 = .ok (.aload_n 0, 1) := by decide +kernel
theorem dX5_foresee_44 : decode cX5_foresee 44 = .ok (.getfield 10, 3) := by decide +kernel
theorem dX5_foresee_47 : decode cX5_foresee 47 = .ok (.invokevirtual 172, 3) := by decide +kernel
theorem dX5_foresee_50 : decode cX5_foresee 50 = .ok (.aload_n 0, 1) := by decide +kernel
theorem dX5_foresee_51 : decode cX5_foresee 51 = .ok (.getfield 16, 3) := by decide +kernel
theorem dX5_foresee_54 : decode cX5_foresee 54 = .ok (.iload_n 1, 1) := by decide +kernel
theorem dX5_foresee_55 : decode cX5_foresee 55 = .ok (.invokevirtual 154, 3) := by decide +kernel
theorem dX5_foresee_58 : decode cX5_foresee 58 = .ok (.pop, 1) := by decide +kernel
theorem dX5_foresee_59 : decode cX5_foresee 59 = .ok (.iload_n 2, 1) := by decide +kernel
theorem dX5_foresee_60 : decode cX5_foresee 60 = .ok (.ifCond .ne 7, 3) := by decide +kernel
theorem dX5_foresee_63 : decode cX5_foresee 63 = .ok (.iconst 2, 1) := by decide +kernel
theorem dX5_foresee_64 : decode cX5_foresee 64 = .ok (.goto 13, 3) := by decide +kernel
theorem dX5_foresee_67 : decode cX5_foresee 67 = .ok (.iload_n 2, 1) := by decide +kernel
theorem dX5_foresee_68 : decode cX5_foresee 68 = .ok (.iconst 1, 1) := by decide +kernel
theorem dX5_foresee_69 : decode cX5_foresee 69 = .ok (.if_icmp .ne 7, 3) := by decide +kernel
theorem dX5_foresee_72 : decode cX5_foresee 72 = .ok (.iconst 3, 1) := by decide +kernel
theorem dX5_foresee_73 : decode cX5_foresee 73 = .ok (.goto 4, 3) := by decide +kernel
theorem dX5_foresee_76 : decode cX5_foresee 76 = .ok (.iconst 5, 1) := by decide +kernel
theorem dX5_foresee_77 : decode cX5_foresee 77 = .ok (.istore_n 3, 1) := by decide +kernel
theorem dX5_foresee_78 : decode cX5_foresee 78 = .ok (.aload_n 0, 1) := by decide +kernel
theorem dX5_foresee_79 : decode cX5_foresee 79 = .ok (.getfield 16, 3) := by decide +kernel
theorem dX5_foresee_82 : decode cX5_foresee 82 = .ok (.getfield 105, 3) := by decide +kernel
theorem dX5_foresee_85 : decode cX5_foresee 85 = .ok (.iload_n 3, 1) := by decide +kernel
theorem dX5_foresee_86 : decode cX5_foresee 86 = .ok (.invokevirtual 176, 3) := by decide +kernel
theorem dX5_foresee_89 : decode cX5_foresee 89 = .ok (.aload_n 0, 1) := by decide +kernel
theorem dX5_foresee_90 : decode cX5_foresee 90 = .ok (.getfield 10, 3) := by decide +kernel
theorem dX5_foresee_93 : decode cX5_foresee 93 = .ok (.getfield 105, 3) := by decide +kernel
theorem dX5_foresee_96 : decode cX5_foresee 96 = .ok (.iload_n 3, 1) := by decide +kernel
theorem dX5_foresee_97 : decode cX5_foresee 97 = .ok (.invokevirtual 176, 3) := by decide +kernel
theorem dX5_foresee_100 : decode cX5_foresee 100 = .ok (.isub, 1) := by decide +kernel
theorem dX5_foresee_101 : decode cX5_foresee 101 = .ok (.ireturn, 1) := by decide +kernel
set_option maxRecDepth 20000 in
theorem ggX5_fate_X2_has : GoodIn wsX5_fate wsX2_has := goodIn_r _ [13, 14, 210, 211, 212, 213, 214, 215, 216, 217, 218, 219] (by decide +kernel) (by decide +kernel)
set_option maxRecDepth 20000 in
theorem gX5_fate_X2_has : GoodIn wsX5_fate (wsV RX5 115 RX2 yX2_has wsX2_has) := goodIn_app (goodIn_of _ (by decide +kernel)) ggX5_fate_X2_has
set_option maxRecDepth 20000 in
theorem ggX5_fate_X5_isWithin : GoodIn wsX5_fate wsX5_isWithin := goodIn_r _ [18] (by decide +kernel) (by decide +kernel)
set_option maxRecDepth 20000 in
theorem gX5_fate_X5_isWithin : GoodIn wsX5_fate (va_wsS RX5 19 yX5_isWithin wsX5_isWithin) := goodIn_app (goodIn_of _ (by decide +kernel)) ggX5_fate_X5_isWithin
set_option maxRecDepth 20000 in
theorem ggX5_fate_X3_copyFrom : GoodIn wsX5_fate wsX3_copyFrom := goodIn_r _ [23, 24, 25, 26, 27, 28, 29, 30, 31, 32, 33, 34, 35, 36, 37, 38, 39, 40, 41, 42, 43, 44, 45, 46, 47, 48, 49, 50, 51, 52, 53, 54, 55, 56, 57, 58, 59, 60, 61, 62, 63, 64, 65, 66, 12, 67, 14, 68, 69, 70, 71, 72, 73, 74, 75, 76, 77, 200, 201, 202, 203, 204, 205, 206, 207, 208, 209, 220, 221, 222, 223, 224, 225, 226, 227, 228, 229, 230, 231, 210, 211, 212, 213, 214, 215, 216, 217, 218, 219] (by decide +kernel) (by decide +kernel)
set_option maxRecDepth 20000 in
theorem gX5_fate_X3_copyFrom : GoodIn wsX5_fate (wsV RX5 172 RX3 yX3_copyFrom wsX3_copyFrom) := goodIn_app (goodIn_of _ (by decide +kernel)) ggX5_fate_X3_copyFrom
set_option maxRecDepth 20000 in
theorem ggX5_fate_X3_letGoBy : GoodIn wsX5_fate wsX3_letGoBy := goodIn_r _ [81, 82, 83, 84, 85, 22, 86, 27, 87, 28, 88, 89, 90, 91, 24, 92, 93, 94, 34, 95, 36, 37, 96, 97, 98, 99, 100, 101, 102, 103, 104, 105, 106, 107, 108, 25, 109, 110, 111, 26, 112, 113, 114, 115, 116, 117, 118, 45, 119, 47, 48, 120, 121, 122, 55, 123, 58, 124, 125, 126, 127, 57, 128, 129, 130, 131, 132, 133, 10, 11, 12, 13, 14, 134, 135, 136, 137, 138, 139, 140, 141, 142, 143, 144, 145, 146, 147, 62, 60, 148, 149, 150, 151, 68, 70, 71, 72, 76, 77, 152, 153, 154, 155, 156, 73, 74, 75, 157, 158, 159, 160, 161, 162, 163, 164, 165, 166, 29, 167, 168, 169, 170, 171, 172, 173, 174, 175, 176, 177, 178, 179, 180, 181, 182, 30, 183, 184, 185, 186, 187, 188, 189, 190, 51, 50, 191, 192, 193, 194, 195, 196, 197, 200, 201, 202, 203, 204, 205, 206, 207, 208, 209, 210, 211, 212, 213, 214, 215, 216, 217, 218, 219, 220, 221, 222, 223, 224, 225, 226, 227, 228, 229, 230, 231] (by decide +kernel) (by decide +kernel)
set_option maxRecDepth 20000 in
theorem gX5_fate_X3_letGoBy : GoodIn wsX5_fate (wsV RX5 154 RX3 yX3_letGoBy wsX3_letGoBy) := goodIn_app (goodIn_of _ (by decide +kernel)) ggX5_fate_X3_letGoBy
theorem dX5_fate_0 : decode cX5_fate 0 = .ok (.aload_n 0, 1) := by decide +kernel
theorem dX5_fate_1 : decode cX5_fate 1 = .ok (.getfield 10, 3) := by decide +kernel
theorem dX5_fate_4 : decode cX5_fate 4 = .ok (.getfield 105, 3) := by decide +kernel
theorem dX5_fate_7 : decode cX5_fate 7 = .ok (.iload_n 1, 1) := by decide +kernel
theorem dX5_fate_8 : decode cX5_fate 8 = .ok (.invokevirtual 115, 3) := by decide +kernel
theorem dX5_fate_11 : decode cX5_fate 11 = .ok (.ifCond .ne 13, 3) := by decide +kernel
theorem dX5_fate_14 : decode cX5_fate 14 = .ok (.new 98, 3) := by decide +kernel
theorem dX5_fate_17 : decode cX5_fate 17 = .ok (.dup, 1) := by decide +kernel
theorem dX5_fate_18 : decode cX5_fate 18 = .ok (.ldc 116, 2) := by decide +kernel
theorem dX5_fate_20 : decode cX5_fate 20 = .ok (.invokespecial 102, 3) := by decide +kernel
theorem dX5_fate_23 : decode cX5_fate 23 = .ok (.athrow, 1) := by decide +kernel
theorem dX5_fate_24 : decode cX5_fate 24 = .ok (.iload_n 2, 1) := by decide +kernel
theorem dX5_fate_25 : decode cX5_fate 25 = .ok (.iconst 1, 1) := by decide +kernel
theorem dX5_fate_26 : decode cX5_fate 26 = .ok (.bipush 100, 2) := by decide +kernel
theorem dX5_fate_28 : decode cX5_fate 28 = .ok (.invokestatic 19, 3) := by decide +kernel
theorem dX5_fate_31 : decode cX5_fate 31 = .ok (.ifCond .ne 13, 3) := by decide +kernel
theorem dX5_fate_34 : decode cX5_fate 34 = .ok (.new 23, 3) := by decide +kernel
theorem dX5_fate_37 : decode cX5_fate 37 = .ok (.dup, 1) := by decide +kernel
theorem dX5_fate_38 : decode cX5_fate 38 = .ok (.ldc 168, 2) := by decide +kernel
theorem dX5_fate_40 : decode cX5_fate 40 = .ok (.invokespecial 27, 3) := by decide +kernel
theorem dX5_fate_43 : decode cX5_fate 43 = .ok (.athrow, 1) := by decide +kernel
theorem dX5_fate_44 : decode cX5_fate 44 = .ok (.aload_n 0, 1) := by decide +kernel
theorem dX5_fate_45 : decode cX5_fate 45 = .ok (.getfield 16, 3) := by decide +kernel
theorem dX5_fate_48 : decode cX5_fate 48 = .ok (.aload_n 0, 1) := by decide +kernel
theorem dX5_fate_49 : decode cX5_fate 49 = .ok (.getfield 10, 3) := by decide +kernel
theorem dX5_fate_52 : decode cX5_fate 52 = .ok (.invokevirtual 172, 3) := by decide +kernel
theorem dX5_fate_55 : decode cX5_fate 55 = .ok (.aload_n 0, 1) := by decide +kernel
theorem dX5_fate_56 : decode cX5_fate 56 = .ok (.getfield 16, 3) := by decide +kernel
theorem dX5_fate_59 : decode cX5_fate 59 = .ok (.iload_n 2, 1) := by decide +kernel
theorem dX5_fate_60 : decode cX5_fate 60 = .ok (.invokevirtual 154, 3) := by decide +kernel
theorem dX5_fate_63 : decode cX5_fate 63 = .ok (.pop, 1) := by decide +kernel
theorem dX5_fate_64 : decode cX5_fate 64 = .ok (.aload_n 0, 1) := by decide +kernel
theorem dX5_fate_65 : decode cX5_fate 65 = .ok (.getfield 16, 3) := by decide +kernel
theorem dX5_fate_68 : decode cX5_fate 68 = .ok (.getfield 105, 3) := by decide +kernel
theorem dX5_fate_71 : decode cX5_fate 71 = .ok (.getfield 179, 3) := by decide +kernel
theorem dX5_fate_74 : decode cX5_fate 74 = .ok (.iload_n 1, 1) := by decide +kernel
theorem dX5_fate_75 : decode cX5_fate 75 = .ok (.iaload, 1) := by decide +kernel
theorem dX5_fate_76 : decode cX5_fate 76 = .ok (.ireturn, 1) := by decide +kernel
set_option maxRecDepth 20000 in
theorem ggX5_reaches_X1_has : GoodIn wsX5_reaches wsX1_has := goodIn_r _ [10, 11, 60, 61, 62, 63, 64, 65] (by decide +kernel) (by decide +kernel)
set_option maxRecDepth 20000 in
theorem gX5_reaches_X1_has : GoodIn wsX5_reaches (wsV RX5 94 RX1 yX1_has wsX1_has) := goodIn_app (goodIn_of _ (by decide +kernel)) ggX5_reaches_X1_has
set_option maxRecDepth 20000 in
theorem ggX5_reaches_X0_has : GoodIn wsX5_reaches wsX0_has := goodIn_r _ [16, 17, 66, 67, 68, 69] (by decide +kernel) (by decide +kernel)
set_option maxRecDepth 20000 in
theorem gX5_reaches_X0_has : GoodIn wsX5_reaches (wsV RX5 122 RX0 yX0_has wsX0_has) := goodIn_app (goodIn_of _ (by decide +kernel)) ggX5_reaches_X0_has
set_option maxRecDepth 20000 in
theorem ggX5_reaches_X1_heightOf : GoodIn wsX5_reaches wsX1_heightOf := goodIn_r _ [21, 22, 23, 7, 8, 9, 10, 11, 60, 61, 62, 63, 64, 65] (by decide +kernel) (by decide +kernel)
set_option maxRecDepth 20000 in
theorem gX5_reaches_X1_heightOf : GoodIn wsX5_reaches (wsV RX5 162 RX1 yX1_heightOf wsX1_heightOf) := goodIn_app (goodIn_of _ (by decide +kernel)) ggX5_reaches_X1_heightOf
set_option maxRecDepth 20000 in
theorem ggX5_reaches_X3_hourOfReach : GoodIn wsX5_reaches wsX3_hourOfReach := goodIn_r _ [28, 29, 30, 31, 32, 33, 34, 35, 36, 37, 38, 39, 40, 41, 42, 43, 44, 45, 15, 46, 17, 47, 50, 51, 52, 53, 54, 55, 56, 57, 58, 59, 70, 71, 66, 67, 68, 69] (by decide +kernel) (by decide +kernel)
set_option maxRecDepth 20000 in
theorem gX5_reaches_X3_hourOfReach : GoodIn wsX5_reaches (wsV RX5 184 RX3 yX3_hourOfReach wsX3_hourOfReach) := goodIn_app (goodIn_of _ (by decide +kernel)) ggX5_reaches_X3_hourOfReach
theorem dX5_reaches_0 : decode cX5_reaches 0 = .ok (.aload_n 0, 1) := by decide +kernel
theorem dX5_reaches_1 : decode cX5_reaches 1 = .ok (.getfield 10, 3) := by decide +kernel
theorem dX5_reaches_4 : decode cX5_reaches 4 = .ok (.getfield 82, 3) := by decide +kernel
theorem dX5_reaches_7 : decode cX5_reaches 7 = .ok (.iload_n 1, 1) := by decide +kernel
theorem dX5_reaches_8 : decode cX5_reaches 8 = .ok (.invokevirtual 94, 3) := by decide +kernel
theorem dX5_reaches_11 : decode cX5_reaches 11 = .ok (.ifCond .eq 17, 3) := by decide +kernel
theorem dX5_reaches_14 : decode cX5_reaches 14 = .ok (.aload_n 0, 1) := by decide +kernel
theorem dX5_reaches_15 : decode cX5_reaches 15 = .ok (.getfield 10, 3) := by decide +kernel
theorem dX5_reaches_18 : decode cX5_reaches 18 = .ok (.getfield 60, 3) := by decide +kernel
theorem dX5_reaches_21 : decode cX5_reaches 21 = .ok (.iload_n 2, 1) := by decide +kernel
theorem dX5_reaches_22 : decode cX5_reaches 22 = .ok (.invokevirtual 122, 3) := by decide +kernel
theorem dX5_reaches_25 : decode cX5_reaches 25 = .ok (.ifCond .ne 13, 3) := by decide +kernel
theorem dX5_reaches_28 : decode cX5_reaches 28 = .ok (.new 98, 3) := by decide +kernel
theorem dX5_reaches_31 : decode cX5_reaches 31 = .ok (.dup, 1) := by decide +kernel
theorem dX5_reaches_32 : decode cX5_reaches 32 = .ok (.ldc 182, 2) := by decide +kernel
theorem dX5_reaches_34 : decode cX5_reaches 34 = .ok (.invokespecial 102, 3) := by decide +kernel
theorem dX5_reaches_37 : decode cX5_reaches 37 = .ok (.athrow, 1) := by decide +kernel
theorem dX5_reaches_38 : decode cX5_reaches 38 = .ok (.aload_n 0, 1) := by decide +kernel
theorem dX5_reaches_39 : decode cX5_reaches 39 = .ok (.getfield 10, 3) := by decide +kernel
theorem dX5_reaches_42 : decode cX5_reaches 42 = .ok (.aload_n 0, 1) := by decide +kernel
theorem dX5_reaches_43 : decode cX5_reaches 43 = .ok (.getfield 10, 3) := by decide +kernel
theorem dX5_reaches_46 : decode cX5_reaches 46 = .ok (.getfield 82, 3) := by decide +kernel
theorem dX5_reaches_49 : decode cX5_reaches 49 = .ok (.iload_n 1, 1) := by decide +kernel
theorem dX5_reaches_50 : decode cX5_reaches 50 = .ok (.invokevirtual 162, 3) := by decide +kernel
theorem dX5_reaches_53 : decode cX5_reaches 53 = .ok (.iload_n 2, 1) := by decide +kernel
theorem dX5_reaches_54 : decode cX5_reaches 54 = .ok (.invokevirtual 184, 3) := by decide +kernel
theorem dX5_reaches_57 : decode cX5_reaches 57 = .ok (.ireturn, 1) := by decide +kernel
set_option maxRecDepth 20000 in
theorem ggX5_barnacles_X2_inState : GoodIn wsX5_barnacles wsX2_inState := goodIn_r _ [7, 8, 9, 27, 28, 29, 30, 31, 32, 33, 34, 35, 36] (by decide +kernel) (by decide +kernel)
set_option maxRecDepth 20000 in
theorem gX5_barnacles_X2_inState : GoodIn wsX5_barnacles (wsV RX5 176 RX2 yX2_inState wsX2_inState) := goodIn_app (goodIn_of _ (by decide +kernel)) ggX5_barnacles_X2_inState
set_option maxRecDepth 20000 in
theorem ggX5_barnacles_X2_growthInBins : GoodIn wsX5_barnacles wsX2_growthInBins := goodIn_r _ [13, 8, 9, 14, 27, 28, 29, 30, 31, 32, 33, 34, 35, 36] (by decide +kernel) (by decide +kernel)
set_option maxRecDepth 20000 in
theorem gX5_barnacles_X2_growthInBins : GoodIn wsX5_barnacles (wsV RX5 187 RX2 yX2_growthInBins wsX2_growthInBins) := goodIn_app (goodIn_of _ (by decide +kernel)) ggX5_barnacles_X2_growthInBins
theorem dX5_barnacles_0 : decode cX5_barnacles 0 = .ok (.aload_n 0, 1) := by decide +kernel
theorem dX5_barnacles_1 : decode cX5_barnacles 1 = .ok (.getfield 10, 3) := by decide +kernel
theorem dX5_barnacles_4 : decode cX5_barnacles 4 = .ok (.getfield 105, 3) := by decide +kernel
theorem dX5_barnacles_7 : decode cX5_barnacles 7 = .ok (.iconst 1, 1) := by decide +kernel
theorem dX5_barnacles_8 : decode cX5_barnacles 8 = .ok (.invokevirtual 176, 3) := by decide +kernel
theorem dX5_barnacles_11 : decode cX5_barnacles 11 = .ok (.istore_n 1, 1) := by decide +kernel
theorem dX5_barnacles_12 : decode cX5_barnacles 12 = .ok (.iload_n 1, 1) := by decide +kernel
theorem dX5_barnacles_13 : decode cX5_barnacles 13 = .ok (.iconst 1, 1) := by decide +kernel
theorem dX5_barnacles_14 : decode cX5_barnacles 14 = .ok (.if_icmp .ge 5, 3) := by decide +kernel
theorem dX5_barnacles_17 : decode cX5_barnacles 17 = .ok (.dconst 0, 1) := by decide +kernel
theorem dX5_barnacles_18 : decode cX5_barnacles 18 = .ok (.dreturn, 1) := by decide +kernel
theorem dX5_barnacles_19 : decode cX5_barnacles 19 = .ok (.aload_n 0, 1) := by decide +kernel
theorem dX5_barnacles_20 : decode cX5_barnacles 20 = .ok (.getfield 10, 3) := by decide +kernel
theorem dX5_barnacles_23 : decode cX5_barnacles 23 = .ok (.getfield 105, 3) := by decide +kernel
theorem dX5_barnacles_26 : decode cX5_barnacles 26 = .ok (.invokevirtual 187, 3) := by decide +kernel
theorem dX5_barnacles_29 : decode cX5_barnacles 29 = .ok (.i2d, 1) := by decide +kernel
theorem dX5_barnacles_30 : decode cX5_barnacles 30 = .ok (.iload_n 1, 1) := by decide +kernel
theorem dX5_barnacles_31 : decode cX5_barnacles 31 = .ok (.i2d, 1) := by decide +kernel
theorem dX5_barnacles_32 : decode cX5_barnacles 32 = .ok (.ddiv, 1) := by decide +kernel
theorem dX5_barnacles_33 : decode cX5_barnacles 33 = .ok (.dreturn, 1) := by decide +kernel
set_option maxRecDepth 20000 in
theorem ggX5_digest_X3_total : GoodIn wsX5_digest wsX3_total := goodIn_r _ [13, 14, 15, 16, 17, 18, 19, 20, 21, 22, 23, 24, 25, 26, 27, 28, 29, 30, 31, 117, 118, 119, 120, 121, 122, 123, 124, 125, 126, 127, 128, 129, 130, 131, 132, 133, 134, 135, 136, 137, 138, 139, 140, 141, 142, 143, 144, 145, 146, 147, 148] (by decide +kernel) (by decide +kernel)
set_option maxRecDepth 20000 in
theorem gX5_digest_X3_total : GoodIn wsX5_digest (wsV RX5 159 RX3 yX3_total wsX3_total) := goodIn_app (goodIn_of _ (by decide +kernel)) ggX5_digest_X3_total
set_option maxRecDepth 20000 in
theorem ggX5_digest_X4_digestFrom : GoodIn wsX5_digest wsX4_digestFrom := goodIn_r _ [36, 37, 38, 39, 147, 148] (by decide +kernel) (by decide +kernel)
set_option maxRecDepth 20000 in
theorem gX5_digest_X4_digestFrom : GoodIn wsX5_digest (wsV RX5 194 RX4 yX4_digestFrom wsX4_digestFrom) := goodIn_app (goodIn_of _ (by decide +kernel)) ggX5_digest_X4_digestFrom
set_option maxRecDepth 20000 in
theorem ggX5_digest_X3_binFact : GoodIn wsX5_digest wsX3_binFact := goodIn_r _ [43, 15, 44, 45, 46, 19, 47, 48, 49, 50, 51, 52, 53, 54, 55, 12, 56, 21, 14, 57, 58, 59, 35, 60, 37, 39, 61, 62, 63, 64, 65, 66, 67, 68, 69, 70, 71, 72, 28, 73, 30, 31, 74, 75, 117, 118, 119, 120, 121, 122, 123, 124, 125, 126, 127, 128, 129, 130, 147, 148, 137, 138, 139, 140, 141, 142, 143, 144, 145, 146] (by decide +kernel) (by decide +kernel)
set_option maxRecDepth 20000 in
theorem gX5_digest_X3_binFact : GoodIn wsX5_digest (wsV RX5 149 RX3 yX3_binFact wsX3_binFact) := goodIn_app (goodIn_of _ (by decide +kernel)) ggX5_digest_X3_binFact
set_option maxRecDepth 20000 in
theorem ggX5_digest_X1_digestFrom : GoodIn wsX5_digest wsX1_digestFrom := goodIn_r _ [80, 81, 82, 83, 84, 85, 79, 86, 87, 88, 89, 90, 91, 92, 93, 94, 95, 131, 132, 133, 134, 135, 136] (by decide +kernel) (by decide +kernel)
set_option maxRecDepth 20000 in
theorem gX5_digest_X1_digestFrom : GoodIn wsX5_digest (wsV RX5 198 RX1 yX1_digestFrom wsX1_digestFrom) := goodIn_app (goodIn_of _ (by decide +kernel)) ggX5_digest_X1_digestFrom
set_option maxRecDepth 20000 in
theorem ggX5_digest_X2_digestFrom : GoodIn wsX5_digest wsX2_digestFrom := goodIn_r _ [99, 30, 100, 101, 102, 103, 28, 104, 105, 106, 107, 31, 75, 74, 108, 109, 110, 111, 112, 113, 114, 137, 138, 139, 140, 141, 142, 143, 144, 145, 146] (by decide +kernel) (by decide +kernel)
set_option maxRecDepth 20000 in
theorem gX5_digest_X2_digestFrom : GoodIn wsX5_digest (wsV RX5 199 RX2 yX2_digestFrom wsX2_digestFrom) := goodIn_app (goodIn_of _ (by decide +kernel)) ggX5_digest_X2_digestFrom
theorem dX5_digest_0 : decode cX5_digest 0 = .ok (.ldc2_w 190, 3) := by decide +kernel
theorem dX5_digest_3 : decode cX5_digest 3 = .ok (.lstore_n 1, 1) := by decide +kernel
theorem dX5_digest_4 : decode cX5_digest 4 = .ok (.iconst 0, 1) := by decide +kernel
theorem dX5_digest_5 : decode cX5_digest 5 = .ok (.istore_n 3, 1) := by decide +kernel
theorem dX5_digest_6 : decode cX5_digest 6 = .ok (.iload_n 3, 1) := by decide +kernel
theorem dX5_digest_7 : decode cX5_digest 7 = .ok (.bipush 13, 2) := by decide +kernel
theorem dX5_digest_9 : decode cX5_digest 9 = .ok (.if_icmp .ge 25, 3) := by decide +kernel
theorem dX5_digest_12 : decode cX5_digest 12 = .ok (.lload_n 1, 1) := by decide +kernel
theorem dX5_digest_13 : decode cX5_digest 13 = .ok (.ldc2_w 192, 3) := by decide +kernel
theorem dX5_digest_16 : decode cX5_digest 16 = .ok (.lmul, 1) := by decide +kernel
theorem dX5_digest_17 : decode cX5_digest 17 = .ok (.aload_n 0, 1) := by decide +kernel
theorem dX5_digest_18 : decode cX5_digest 18 = .ok (.getfield 10, 3) := by decide +kernel
theorem dX5_digest_21 : decode cX5_digest 21 = .ok (.iload_n 3, 1) := by decide +kernel
theorem dX5_digest_22 : decode cX5_digest 22 = .ok (.invokevirtual 159, 3) := by decide +kernel
theorem dX5_digest_25 : decode cX5_digest 25 = .ok (.i2l, 1) := by decide +kernel
theorem dX5_digest_26 : decode cX5_digest 26 = .ok (.ladd, 1) := by decide +kernel
theorem dX5_digest_27 : decode cX5_digest 27 = .ok (.lstore_n 1, 1) := by decide +kernel
theorem dX5_digest_28 : decode cX5_digest 28 = .ok (.iinc 3 1, 3) := by decide +kernel
theorem dX5_digest_31 : decode cX5_digest 31 = .ok (.goto (-25), 3) := by decide +kernel
theorem dX5_digest_34 : decode cX5_digest 34 = .ok (.aload_n 0, 1) := by decide +kernel
theorem dX5_digest_35 : decode cX5_digest 35 = .ok (.getfield 10, 3) := by decide +kernel
theorem dX5_digest_38 : decode cX5_digest 38 = .ok (.getfield 30, 3) := by decide +kernel
theorem dX5_digest_41 : decode cX5_digest 41 = .ok (.lload_n 1, 1) := by decide +kernel
theorem dX5_digest_42 : decode cX5_digest 42 = .ok (.invokevirtual 194, 3) := by decide +kernel
theorem dX5_digest_45 : decode cX5_digest 45 = .ok (.lstore_n 1, 1) := by decide +kernel
theorem dX5_digest_46 : decode cX5_digest 46 = .ok (.iconst 0, 1) := by decide +kernel
theorem dX5_digest_47 : decode cX5_digest 47 = .ok (.istore_n 3, 1) := by decide +kernel
theorem dX5_digest_48 : decode cX5_digest 48 = .ok (.iload_n 3, 1) := by decide +kernel
theorem dX5_digest_49 : decode cX5_digest 49 = .ok (.aload_n 0, 1) := by decide +kernel
theorem dX5_digest_50 : decode cX5_digest 50 = .ok (.getfield 10, 3) := by decide +kernel
theorem dX5_digest_53 : decode cX5_digest 53 = .ok (.getfield 60, 3) := by decide +kernel
theorem dX5_digest_56 : decode cX5_digest 56 = .ok (.getfield 64, 3) := by decide +kernel
theorem dX5_digest_59 : decode cX5_digest 59 = .ok (.if_icmp .ge 42, 3) := by decide +kernel
theorem dX5_digest_62 : decode cX5_digest 62 = .ok (.iconst 0, 1) := by decide +kernel
theorem dX5_digest_63 : decode cX5_digest 63 = .ok (.istore 4, 2) := by decide +kernel
theorem dX5_digest_65 : decode cX5_digest 65 = .ok (.iload 4, 2) := by decide +kernel
theorem dX5_digest_67 : decode cX5_digest 67 = .ok (.iconst 5, 1) := by decide +kernel
theorem dX5_digest_68 : decode cX5_digest 68 = .ok (.if_icmp .ge 27, 3) := by decide +kernel
theorem dX5_digest_71 : decode cX5_digest 71 = .ok (.lload_n 1, 1) := by decide +kernel
theorem dX5_digest_72 : decode cX5_digest 72 = .ok (.ldc2_w 192, 3) := by decide +kernel
theorem dX5_digest_75 : decode cX5_digest 75 = .ok (.lmul, 1) := by decide +kernel
theorem dX5_digest_76 : decode cX5_digest 76 = .ok (.aload_n 0, 1) := by decide +kernel
theorem dX5_digest_77 : decode cX5_digest 77 = .ok (.getfield 10, 3) := by decide +kernel
theorem dX5_digest_80 : decode cX5_digest 80 = .ok (.iload_n 3, 1) := by decide +kernel
theorem dX5_digest_81 : decode cX5_digest 81 = .ok (.iload 4, 2) := by decide +kernel
theorem dX5_digest_83 : decode cX5_digest 83 = .ok (.invokevirtual 149, 3) := by decide +kernel
theorem dX5_digest_86 : decode cX5_digest 86 = .ok (.i2l, 1) := by decide +kernel
theorem dX5_digest_87 : decode cX5_digest 87 = .ok (.ladd, 1) := by decide +kernel
theorem dX5_digest_88 : decode cX5_digest 88 = .ok (.lstore_n 1, 1) := by decide +kernel
theorem dX5_digest_89 : decode cX5_digest 89 = .ok (.iinc 4 1, 3) := by decide +kernel
theorem dX5_digest_92 : decode cX5_digest 92 = .ok (.goto (-27), 3) := by decide +kernel
theorem dX5_digest_95 : decode cX5_digest 95 = .ok (.iinc 3 1, 3) := by decide +kernel
theorem dX5_digest_98 : decode cX5_digest 98 = .ok (.goto (-50), 3) := by decide +kernel
theorem dX5_digest_101 : decode cX5_digest 101 = .ok (.aload_n 0, 1) := by decide +kernel
theorem dX5_digest_102 : decode cX5_digest 102 = .ok (.getfield 10, 3) := by decide +kernel
theorem dX5_digest_105 : decode cX5_digest 105 = .ok (.getfield 82, 3) := by decide +kernel
theorem dX5_digest_108 : decode cX5_digest 108 = .ok (.lload_n 1, 1) := by decide +kernel
theorem dX5_digest_109 : decode cX5_digest 109 = .ok (.invokevirtual 198, 3) := by decide +kernel
theorem dX5_digest_112 : decode cX5_digest 112 = .ok (.lstore_n 1, 1) := by decide +kernel
theorem dX5_digest_113 : decode cX5_digest 113 = .ok (.aload_n 0, 1) := by decide +kernel
theorem dX5_digest_114 : decode cX5_digest 114 = .ok (.getfield 10, 3) := by decide +kernel
theorem dX5_digest_117 : decode cX5_digest 117 = .ok (.getfield 105, 3) := by decide +kernel
theorem dX5_digest_120 : decode cX5_digest 120 = .ok (.lload_n 1, 1) := by decide +kernel
theorem dX5_digest_121 : decode cX5_digest 121 = .ok (.invokevirtual 199, 3) := by decide +kernel
theorem dX5_digest_124 : decode cX5_digest 124 = .ok (.lreturn, 1) := by decide +kernel
theorem dX5_isWithin_0 : decode cX5_isWithin 0 = .ok (.iload_n 0, 1) := by decide +kernel
theorem dX5_isWithin_1 : decode cX5_isWithin 1 = .ok (.iload_n 1, 1) := by decide +kernel
theorem dX5_isWithin_2 : decode cX5_isWithin 2 = .ok (.if_icmp .lt 12, 3) := by decide +kernel
theorem dX5_isWithin_5 : decode cX5_isWithin 5 = .ok (.iload_n 0, 1) := by decide +kernel
theorem dX5_isWithin_6 : decode cX5_isWithin 6 = .ok (.iload_n 2, 1) := by decide +kernel
theorem dX5_isWithin_7 : decode cX5_isWithin 7 = .ok (.if_icmp .gt 7, 3) := by decide +kernel
theorem dX5_isWithin_10 : decode cX5_isWithin 10 = .ok (.iconst 1, 1) := by decide +kernel
theorem dX5_isWithin_11 : decode cX5_isWithin 11 = .ok (.goto 4, 3) := by decide +kernel
theorem dX5_isWithin_14 : decode cX5_isWithin 14 = .ok (.iconst 0, 1) := by decide +kernel
theorem dX5_isWithin_15 : decode cX5_isWithin 15 = .ok (.ireturn, 1) := by decide +kernel
set_option maxRecDepth 20000 in
theorem ggL_beginTides_X5_beginTides : GoodIn wsL_beginTides wsX5_beginTides := goodIn_ca (goodIn_r _ [6, 7, 8, 9, 10, 11, 12, 13, 5, 14, 15, 16, 17, 18, 19, 20, 21, 22, 23, 24, 25, 26, 27, 28, 29, 30, 31, 32, 33, 34, 35] (by decide +kernel) (by decide +kernel)) (goodIn_sub (fun _ h => List.mem_cons_of_mem _ (List.mem_append_right _ h)) (by decide +kernel))
set_option maxRecDepth 20000 in
theorem gL_beginTides_X5_beginTides : GoodIn wsL_beginTides (wsV RL 7 RX5 yX5_beginTides wsX5_beginTides) := goodIn_app (goodIn_of _ (by decide +kernel)) ggL_beginTides_X5_beginTides
theorem dL_beginTides_0 : decode cL_beginTides 0 = .ok (.aload_n 2, 1) := by decide +kernel
theorem dL_beginTides_1 : decode cL_beginTides 1 = .ok (.iconst 0, 1) := by decide +kernel
theorem dL_beginTides_2 : decode cL_beginTides 2 = .ok (.aload_n 0, 1) := by decide +kernel
theorem dL_beginTides_3 : decode cL_beginTides 3 = .ok (.iload_n 1, 1) := by decide +kernel
theorem dL_beginTides_4 : decode cL_beginTides 4 = .ok (.invokevirtual 7, 3) := by decide +kernel
theorem dL_beginTides_7 : decode cL_beginTides 7 = .ok (.i2l, 1) := by decide +kernel
theorem dL_beginTides_8 : decode cL_beginTides 8 = .ok (.lastore, 1) := by decide +kernel
theorem dL_beginTides_9 : decode cL_beginTides 9 = .ok (.goto 6, 3) := by decide +kernel
theorem dL_beginTides_12 : decode cL_beginTides 12 = .ok (.astore_n 3, 1) := by decide +kernel
theorem dL_beginTides_13 : decode cL_beginTides 13 = .ok (.iconst 1, 1) := by decide +kernel
theorem dL_beginTides_14 : decode cL_beginTides 14 = .ok (.ireturn, 1) := by decide +kernel
theorem dL_beginTides_15 : decode cL_beginTides 15 = .ok (.iconst 0, 1) := by decide +kernel
theorem dL_beginTides_16 : decode cL_beginTides 16 = .ok (.ireturn, 1) := by decide +kernel
set_option maxRecDepth 20000 in
theorem ggL_addTide_X5_addTide : GoodIn wsL_addTide wsX5_addTide := goodIn_ca (goodIn_ca (goodIn_r _ [7, 8, 9, 10, 11, 12, 13, 14, 15, 16, 6, 17, 18, 19, 20, 21, 22, 23, 24, 25, 26, 27, 28, 29, 30, 31, 32, 33, 34, 35, 36, 37, 38] (by decide +kernel) (by decide +kernel)) (goodIn_sub (fun _ h => List.mem_cons_of_mem _ (List.mem_append_left _ (List.mem_append_right _ h))) (by decide +kernel))) (goodIn_sub (fun _ h => List.mem_cons_of_mem _ (List.mem_append_right _ h)) (by decide +kernel))
set_option maxRecDepth 20000 in
theorem gL_addTide_X5_addTide : GoodIn wsL_addTide (wsV RL 15 RX5 yX5_addTide wsX5_addTide) := goodIn_app (goodIn_of _ (by decide +kernel)) ggL_addTide_X5_addTide
theorem dL_addTide_0 : decode cL_addTide 0 = .ok (.aload_n 2, 1) := by decide +kernel
theorem dL_addTide_1 : decode cL_addTide 1 = .ok (.iconst 0, 1) := by decide +kernel
theorem dL_addTide_2 : decode cL_addTide 2 = .ok (.aload_n 0, 1) := by decide +kernel
theorem dL_addTide_3 : decode cL_addTide 3 = .ok (.iload_n 1, 1) := by decide +kernel
theorem dL_addTide_4 : decode cL_addTide 4 = .ok (.invokevirtual 15, 3) := by decide +kernel
theorem dL_addTide_7 : decode cL_addTide 7 = .ok (.i2l, 1) := by decide +kernel
theorem dL_addTide_8 : decode cL_addTide 8 = .ok (.lastore, 1) := by decide +kernel
theorem dL_addTide_9 : decode cL_addTide 9 = .ok (.goto 9, 3) := by decide +kernel
theorem dL_addTide_12 : decode cL_addTide 12 = .ok (.astore_n 3, 1) := by decide +kernel
theorem dL_addTide_13 : decode cL_addTide 13 = .ok (.iconst 1, 1) := by decide +kernel
theorem dL_addTide_14 : decode cL_addTide 14 = .ok (.ireturn, 1) := by decide +kernel
theorem dL_addTide_15 : decode cL_addTide 15 = .ok (.astore_n 3, 1) := by decide +kernel
theorem dL_addTide_16 : decode cL_addTide 16 = .ok (.iconst 2, 1) := by decide +kernel
theorem dL_addTide_17 : decode cL_addTide 17 = .ok (.ireturn, 1) := by decide +kernel
theorem dL_addTide_18 : decode cL_addTide 18 = .ok (.iconst 0, 1) := by decide +kernel
theorem dL_addTide_19 : decode cL_addTide 19 = .ok (.ireturn, 1) := by decide +kernel
set_option maxRecDepth 20000 in
theorem ggL_tide_X5_tide : GoodIn wsL_tide wsX5_tide := goodIn_ca (goodIn_r _ [6, 7, 8, 9, 10, 11, 12, 13, 14, 15, 16, 17, 18, 19, 20, 21, 22, 23, 24, 25, 26, 27, 28, 29, 30, 31, 32, 33, 34, 35] (by decide +kernel) (by decide +kernel)) (goodIn_sub (fun _ h => List.mem_cons_of_mem _ (List.mem_append_right _ h)) (by decide +kernel))
set_option maxRecDepth 20000 in
theorem gL_tide_X5_tide : GoodIn wsL_tide (wsV RL 20 RX5 yX5_tide wsX5_tide) := goodIn_app (goodIn_of _ (by decide +kernel)) ggL_tide_X5_tide
theorem dL_tide_0 : decode cL_tide 0 = .ok (.aload_n 2, 1) := by decide +kernel
theorem dL_tide_1 : decode cL_tide 1 = .ok (.iconst 0, 1) := by decide +kernel
theorem dL_tide_2 : decode cL_tide 2 = .ok (.aload_n 0, 1) := by decide +kernel
theorem dL_tide_3 : decode cL_tide 3 = .ok (.iload_n 1, 1) := by decide +kernel
theorem dL_tide_4 : decode cL_tide 4 = .ok (.invokevirtual 20, 3) := by decide +kernel
theorem dL_tide_7 : decode cL_tide 7 = .ok (.i2l, 1) := by decide +kernel
theorem dL_tide_8 : decode cL_tide 8 = .ok (.lastore, 1) := by decide +kernel
theorem dL_tide_9 : decode cL_tide 9 = .ok (.goto 6, 3) := by decide +kernel
theorem dL_tide_12 : decode cL_tide 12 = .ok (.astore_n 3, 1) := by decide +kernel
theorem dL_tide_13 : decode cL_tide 13 = .ok (.iconst 1, 1) := by decide +kernel
theorem dL_tide_14 : decode cL_tide 14 = .ok (.ireturn, 1) := by decide +kernel
theorem dL_tide_15 : decode cL_tide 15 = .ok (.iconst 0, 1) := by decide +kernel
theorem dL_tide_16 : decode cL_tide 16 = .ok (.ireturn, 1) := by decide +kernel
set_option maxRecDepth 20000 in
theorem ggL_addBin_X5_addBin : GoodIn wsL_addBin wsX5_addBin := goodIn_ca (goodIn_ca (goodIn_r _ [7, 8, 9, 10, 11, 12, 13, 14, 15, 16, 6, 17, 18, 19, 20, 21, 22, 23, 24, 25, 26, 27, 28, 29, 30, 31, 32, 33, 34, 35, 36, 37, 38, 39, 40, 41, 42] (by decide +kernel) (by decide +kernel)) (goodIn_sub (fun _ h => List.mem_cons_of_mem _ (List.mem_append_left _ (List.mem_append_right _ h))) (by decide +kernel))) (goodIn_sub (fun _ h => List.mem_cons_of_mem _ (List.mem_append_right _ h)) (by decide +kernel))
set_option maxRecDepth 20000 in
theorem gL_addBin_X5_addBin : GoodIn wsL_addBin (wsV RL 23 RX5 yX5_addBin wsX5_addBin) := goodIn_app (goodIn_of _ (by decide +kernel)) ggL_addBin_X5_addBin
theorem dL_addBin_0 : decode cL_addBin 0 = .ok (.aload_n 3, 1) := by decide +kernel
theorem dL_addBin_1 : decode cL_addBin 1 = .ok (.iconst 0, 1) := by decide +kernel
theorem dL_addBin_2 : decode cL_addBin 2 = .ok (.aload_n 0, 1) := by decide +kernel
theorem dL_addBin_3 : decode cL_addBin 3 = .ok (.iload_n 1, 1) := by decide +kernel
theorem dL_addBin_4 : decode cL_addBin 4 = .ok (.iload_n 2, 1) := by decide +kernel
theorem dL_addBin_5 : decode cL_addBin 5 = .ok (.invokevirtual 23, 3) := by decide +kernel
theorem dL_addBin_8 : decode cL_addBin 8 = .ok (.i2l, 1) := by decide +kernel
theorem dL_addBin_9 : decode cL_addBin 9 = .ok (.lastore, 1) := by decide +kernel
theorem dL_addBin_10 : decode cL_addBin 10 = .ok (.goto 11, 3) := by decide +kernel
theorem dL_addBin_13 : decode cL_addBin 13 = .ok (.astore 4, 2) := by decide +kernel
theorem dL_addBin_15 : decode cL_addBin 15 = .ok (.iconst 1, 1) := by decide +kernel
theorem dL_addBin_16 : decode cL_addBin 16 = .ok (.ireturn, 1) := by decide +kernel
theorem dL_addBin_17 : decode cL_addBin 17 = .ok (.astore 4, 2) := by decide +kernel
theorem dL_addBin_19 : decode cL_addBin 19 = .ok (.iconst 2, 1) := by decide +kernel
theorem dL_addBin_20 : decode cL_addBin 20 = .ok (.ireturn, 1) := by decide +kernel
theorem dL_addBin_21 : decode cL_addBin 21 = .ok (.iconst 0, 1) := by decide +kernel
theorem dL_addBin_22 : decode cL_addBin 22 = .ok (.ireturn, 1) := by decide +kernel
set_option maxRecDepth 20000 in
theorem ggL_setCrew_X5_setCrew : GoodIn wsL_setCrew wsX5_setCrew := goodIn_ca (goodIn_r _ [6, 7, 8, 9, 10, 11, 12, 13, 5, 14, 15, 16, 17, 18, 19, 20, 21, 22, 23, 24, 25, 26] (by decide +kernel) (by decide +kernel)) (goodIn_sub (fun _ h => List.mem_cons_of_mem _ (List.mem_append_right _ h)) (by decide +kernel))
set_option maxRecDepth 20000 in
theorem gL_setCrew_X5_setCrew : GoodIn wsL_setCrew (wsV RL 27 RX5 yX5_setCrew wsX5_setCrew) := goodIn_app (goodIn_of _ (by decide +kernel)) ggL_setCrew_X5_setCrew
theorem dL_setCrew_0 : decode cL_setCrew 0 = .ok (.aload_n 3, 1) := by decide +kernel
theorem dL_setCrew_1 : decode cL_setCrew 1 = .ok (.iconst 0, 1) := by decide +kernel
theorem dL_setCrew_2 : decode cL_setCrew 2 = .ok (.aload_n 0, 1) := by decide +kernel
theorem dL_setCrew_3 : decode cL_setCrew 3 = .ok (.iload_n 1, 1) := by decide +kernel
theorem dL_setCrew_4 : decode cL_setCrew 4 = .ok (.iload_n 2, 1) := by decide +kernel
theorem dL_setCrew_5 : decode cL_setCrew 5 = .ok (.invokevirtual 27, 3) := by decide +kernel
theorem dL_setCrew_8 : decode cL_setCrew 8 = .ok (.i2l, 1) := by decide +kernel
theorem dL_setCrew_9 : decode cL_setCrew 9 = .ok (.lastore, 1) := by decide +kernel
theorem dL_setCrew_10 : decode cL_setCrew 10 = .ok (.goto 7, 3) := by decide +kernel
theorem dL_setCrew_13 : decode cL_setCrew 13 = .ok (.astore 4, 2) := by decide +kernel
theorem dL_setCrew_15 : decode cL_setCrew 15 = .ok (.iconst 1, 1) := by decide +kernel
theorem dL_setCrew_16 : decode cL_setCrew 16 = .ok (.ireturn, 1) := by decide +kernel
theorem dL_setCrew_17 : decode cL_setCrew 17 = .ok (.iconst 0, 1) := by decide +kernel
theorem dL_setCrew_18 : decode cL_setCrew 18 = .ok (.ireturn, 1) := by decide +kernel
set_option maxRecDepth 20000 in
theorem ggL_addDrowned_X5_addDrowned : GoodIn wsL_addDrowned wsX5_addDrowned := goodIn_ca (goodIn_ca (goodIn_r _ [7, 8, 9, 10, 11, 12, 13, 14, 15, 16, 6, 17, 18, 19, 20, 21, 22, 23, 24, 25, 26, 27, 28, 29, 30, 31, 32, 33, 34, 35, 36, 37, 38, 39, 40, 41, 42, 43, 44, 45, 46] (by decide +kernel) (by decide +kernel)) (goodIn_sub (fun _ h => List.mem_cons_of_mem _ (List.mem_append_left _ (List.mem_append_right _ h))) (by decide +kernel))) (goodIn_sub (fun _ h => List.mem_cons_of_mem _ (List.mem_append_right _ h)) (by decide +kernel))
set_option maxRecDepth 20000 in
theorem gL_addDrowned_X5_addDrowned : GoodIn wsL_addDrowned (wsV RL 30 RX5 yX5_addDrowned wsX5_addDrowned) := goodIn_app (goodIn_of _ (by decide +kernel)) ggL_addDrowned_X5_addDrowned
theorem dL_addDrowned_0 : decode cL_addDrowned 0 = .ok (.aload 4, 2) := by decide +kernel
theorem dL_addDrowned_2 : decode cL_addDrowned 2 = .ok (.iconst 0, 1) := by decide +kernel
theorem dL_addDrowned_3 : decode cL_addDrowned 3 = .ok (.aload_n 0, 1) := by decide +kernel
theorem dL_addDrowned_4 : decode cL_addDrowned 4 = .ok (.iload_n 1, 1) := by decide +kernel
theorem dL_addDrowned_5 : decode cL_addDrowned 5 = .ok (.iload_n 2, 1) := by decide +kernel
theorem dL_addDrowned_6 : decode cL_addDrowned 6 = .ok (.iload_n 3, 1) := by decide +kernel
theorem dL_addDrowned_7 : decode cL_addDrowned 7 = .ok (.invokevirtual 30, 3) := by decide +kernel
theorem dL_addDrowned_10 : decode cL_addDrowned 10 = .ok (.i2l, 1) := by decide +kernel
theorem dL_addDrowned_11 : decode cL_addDrowned 11 = .ok (.lastore, 1) := by decide +kernel
theorem dL_addDrowned_12 : decode cL_addDrowned 12 = .ok (.goto 11, 3) := by decide +kernel
theorem dL_addDrowned_15 : decode cL_addDrowned 15 = .ok (.astore 5, 2) := by decide +kernel
theorem dL_addDrowned_17 : decode cL_addDrowned 17 = .ok (.iconst 1, 1) := by decide +kernel
theorem dL_addDrowned_18 : decode cL_addDrowned 18 = .ok (.ireturn, 1) := by decide +kernel
theorem dL_addDrowned_19 : decode cL_addDrowned 19 = .ok (.astore 5, 2) := by decide +kernel
theorem dL_addDrowned_21 : decode cL_addDrowned 21 = .ok (.iconst 2, 1) := by decide +kernel
theorem dL_addDrowned_22 : decode cL_addDrowned 22 = .ok (.ireturn, 1) := by decide +kernel
theorem dL_addDrowned_23 : decode cL_addDrowned 23 = .ok (.iconst 0, 1) := by decide +kernel
theorem dL_addDrowned_24 : decode cL_addDrowned 24 = .ok (.ireturn, 1) := by decide +kernel
set_option maxRecDepth 20000 in
theorem ggL_bring_X5_bring : GoodIn wsL_bring wsX5_bring := goodIn_ca (goodIn_ca (goodIn_ca (goodIn_r _ [8, 9, 10, 11, 12, 13, 14, 15, 16, 17, 18, 19, 20, 21, 22, 23, 24, 25, 26, 7, 27, 28, 29, 30, 31, 32, 33, 34, 35, 36, 37, 38, 39, 40, 41, 42, 43, 44, 45, 46, 47, 48, 49, 50, 51, 52, 53, 54, 55, 56, 57, 58, 59, 60, 61, 62, 63, 64, 65, 66, 67, 68, 69, 70] (by decide +kernel) (by decide +kernel)) (goodIn_sub (fun _ h => List.mem_cons_of_mem _ (List.mem_append_left _ (List.mem_append_left _ (List.mem_append_right _ h)))) (by decide +kernel))) (goodIn_sub (fun _ h => List.mem_cons_of_mem _ (List.mem_append_left _ (List.mem_append_right _ h))) (by decide +kernel))) (goodIn_sub (fun _ h => List.mem_cons_of_mem _ (List.mem_append_right _ h)) (by decide +kernel))
set_option maxRecDepth 20000 in
theorem gL_bring_X5_bring : GoodIn wsL_bring (wsV RL 34 RX5 yX5_bring wsX5_bring) := goodIn_app (goodIn_of _ (by decide +kernel)) ggL_bring_X5_bring
theorem dL_bring_0 : decode cL_bring 0 = .ok (.aload 4, 2) := by decide +kernel
theorem dL_bring_2 : decode cL_bring 2 = .ok (.iconst 0, 1) := by decide +kernel
theorem dL_bring_3 : decode cL_bring 3 = .ok (.aload_n 0, 1) := by decide +kernel
theorem dL_bring_4 : decode cL_bring 4 = .ok (.iload_n 1, 1) := by decide +kernel
theorem dL_bring_5 : decode cL_bring 5 = .ok (.iload_n 2, 1) := by decide +kernel
theorem dL_bring_6 : decode cL_bring 6 = .ok (.iload_n 3, 1) := by decide +kernel
theorem dL_bring_7 : decode cL_bring 7 = .ok (.invokevirtual 34, 3) := by decide +kernel
theorem dL_bring_10 : decode cL_bring 10 = .ok (.i2l, 1) := by decide +kernel
theorem dL_bring_11 : decode cL_bring 11 = .ok (.lastore, 1) := by decide +kernel
theorem dL_bring_12 : decode cL_bring 12 = .ok (.goto 15, 3) := by decide +kernel
theorem dL_bring_15 : decode cL_bring 15 = .ok (.astore 5, 2) := by decide +kernel
theorem dL_bring_17 : decode cL_bring 17 = .ok (.iconst 1, 1) := by decide +kernel
theorem dL_bring_18 : decode cL_bring 18 = .ok (.ireturn, 1) := by decide +kernel
theorem dL_bring_19 : decode cL_bring 19 = .ok (.astore 5, 2) := by decide +kernel
theorem dL_bring_21 : decode cL_bring 21 = .ok (.iconst 2, 1) := by decide +kernel
theorem dL_bring_22 : decode cL_bring 22 = .ok (.ireturn, 1) := by decide +kernel
theorem dL_bring_23 : decode cL_bring 23 = .ok (.astore 5, 2) := by decide +kernel
theorem dL_bring_25 : decode cL_bring 25 = .ok (.iconst 3, 1) := by decide +kernel
theorem dL_bring_26 : decode cL_bring 26 = .ok (.ireturn, 1) := by decide +kernel
theorem dL_bring_27 : decode cL_bring 27 = .ok (.iconst 0, 1) := by decide +kernel
theorem dL_bring_28 : decode cL_bring 28 = .ok (.ireturn, 1) := by decide +kernel
set_option maxRecDepth 20000 in
theorem ggL_takeOut_X5_takeOut : GoodIn wsL_takeOut wsX5_takeOut := goodIn_ca (goodIn_ca (goodIn_r _ [7, 8, 9, 10, 11, 12, 13, 14, 15, 16, 17, 18, 19, 20, 21, 22, 23, 24, 25, 26, 27, 28, 29, 30, 31, 32, 33, 34, 35, 36, 37, 38, 39, 40, 41, 42, 43, 44, 45, 46, 47, 48, 49, 50, 51, 52, 53, 54, 55, 56, 57, 58, 59, 60, 61, 62, 63, 64, 65, 66, 67, 68, 69, 70, 71, 72, 73, 74, 75, 76, 77, 78, 79, 80, 81, 82, 83, 84, 85, 86, 87, 88, 89, 90] (by decide +kernel) (by decide +kernel)) (goodIn_sub (fun _ h => List.mem_cons_of_mem _ (List.mem_append_left _ (List.mem_append_right _ h))) (by decide +kernel))) (goodIn_sub (fun _ h => List.mem_cons_of_mem _ (List.mem_append_right _ h)) (by decide +kernel))
set_option maxRecDepth 20000 in
theorem gL_takeOut_X5_takeOut : GoodIn wsL_takeOut (wsV RL 39 RX5 yX5_takeOut wsX5_takeOut) := goodIn_app (goodIn_of _ (by decide +kernel)) ggL_takeOut_X5_takeOut
theorem dL_takeOut_0 : decode cL_takeOut 0 = .ok (.aload_n 2, 1) := by decide +kernel
theorem dL_takeOut_1 : decode cL_takeOut 1 = .ok (.iconst 0, 1) := by decide +kernel
theorem dL_takeOut_2 : decode cL_takeOut 2 = .ok (.aload_n 0, 1) := by decide +kernel
theorem dL_takeOut_3 : decode cL_takeOut 3 = .ok (.iload_n 1, 1) := by decide +kernel
theorem dL_takeOut_4 : decode cL_takeOut 4 = .ok (.invokevirtual 39, 3) := by decide +kernel
theorem dL_takeOut_7 : decode cL_takeOut 7 = .ok (.i2l, 1) := by decide +kernel
theorem dL_takeOut_8 : decode cL_takeOut 8 = .ok (.lastore, 1) := by decide +kernel
theorem dL_takeOut_9 : decode cL_takeOut 9 = .ok (.goto 9, 3) := by decide +kernel
theorem dL_takeOut_12 : decode cL_takeOut 12 = .ok (.astore_n 3, 1) := by decide +kernel
theorem dL_takeOut_13 : decode cL_takeOut 13 = .ok (.iconst 1, 1) := by decide +kernel
theorem dL_takeOut_14 : decode cL_takeOut 14 = .ok (.ireturn, 1) := by decide +kernel
theorem dL_takeOut_15 : decode cL_takeOut 15 = .ok (.astore_n 3, 1) := by decide +kernel
theorem dL_takeOut_16 : decode cL_takeOut 16 = .ok (.iconst 2, 1) := by decide +kernel
theorem dL_takeOut_17 : decode cL_takeOut 17 = .ok (.ireturn, 1) := by decide +kernel
theorem dL_takeOut_18 : decode cL_takeOut 18 = .ok (.iconst 0, 1) := by decide +kernel
theorem dL_takeOut_19 : decode cL_takeOut 19 = .ok (.ireturn, 1) := by decide +kernel
set_option maxRecDepth 20000 in
theorem ggL_letter_X5_letter : GoodIn wsL_letter wsX5_letter := goodIn_ca (goodIn_r _ [6, 7, 8, 9, 10, 11, 12, 13, 14, 15, 16, 17, 18, 5, 19, 20, 21, 22, 23, 24, 25, 26, 27, 28, 29, 30, 31, 32, 33, 34, 35, 36, 37, 38, 39, 40, 41, 42, 43, 44, 45, 46, 47, 48, 49, 50, 51, 52, 53, 54, 55] (by decide +kernel) (by decide +kernel)) (goodIn_sub (fun _ h => List.mem_cons_of_mem _ (List.mem_append_right _ h)) (by decide +kernel))
set_option maxRecDepth 20000 in
theorem gL_letter_X5_letter : GoodIn wsL_letter (wsV RL 42 RX5 yX5_letter wsX5_letter) := goodIn_app (goodIn_of _ (by decide +kernel)) ggL_letter_X5_letter
theorem dL_letter_0 : decode cL_letter 0 = .ok (.aload_n 3, 1) := by decide +kernel
theorem dL_letter_1 : decode cL_letter 1 = .ok (.iconst 0, 1) := by decide +kernel
theorem dL_letter_2 : decode cL_letter 2 = .ok (.aload_n 0, 1) := by decide +kernel
theorem dL_letter_3 : decode cL_letter 3 = .ok (.iload_n 1, 1) := by decide +kernel
theorem dL_letter_4 : decode cL_letter 4 = .ok (.iload_n 2, 1) := by decide +kernel
theorem dL_letter_5 : decode cL_letter 5 = .ok (.invokevirtual 42, 3) := by decide +kernel
theorem dL_letter_8 : decode cL_letter 8 = .ok (.i2l, 1) := by decide +kernel
theorem dL_letter_9 : decode cL_letter 9 = .ok (.lastore, 1) := by decide +kernel
theorem dL_letter_10 : decode cL_letter 10 = .ok (.goto 7, 3) := by decide +kernel
theorem dL_letter_13 : decode cL_letter 13 = .ok (.astore 4, 2) := by decide +kernel
theorem dL_letter_15 : decode cL_letter 15 = .ok (.iconst 1, 1) := by decide +kernel
theorem dL_letter_16 : decode cL_letter 16 = .ok (.ireturn, 1) := by decide +kernel
theorem dL_letter_17 : decode cL_letter 17 = .ok (.iconst 0, 1) := by decide +kernel
theorem dL_letter_18 : decode cL_letter 18 = .ok (.ireturn, 1) := by decide +kernel
set_option maxRecDepth 20000 in
theorem ggL_drowned_X5_drowned : GoodIn wsL_drowned wsX5_drowned := goodIn_ca (goodIn_r _ [6, 7, 8, 9, 10, 11, 12, 13, 14, 15, 16, 17, 18, 5, 19, 20, 21, 22, 23, 24, 25, 26, 27, 28, 29, 30, 31, 32, 33, 34, 35, 36, 37, 38, 39, 40, 41, 42, 43, 44, 45, 46, 47] (by decide +kernel) (by decide +kernel)) (goodIn_sub (fun _ h => List.mem_cons_of_mem _ (List.mem_append_right _ h)) (by decide +kernel))
set_option maxRecDepth 20000 in
theorem gL_drowned_X5_drowned : GoodIn wsL_drowned (wsV RL 45 RX5 yX5_drowned wsX5_drowned) := goodIn_app (goodIn_of _ (by decide +kernel)) ggL_drowned_X5_drowned
theorem dL_drowned_0 : decode cL_drowned 0 = .ok (.aload_n 3, 1) := by decide +kernel
theorem dL_drowned_1 : decode cL_drowned 1 = .ok (.iconst 0, 1) := by decide +kernel
theorem dL_drowned_2 : decode cL_drowned 2 = .ok (.aload_n 0, 1) := by decide +kernel
theorem dL_drowned_3 : decode cL_drowned 3 = .ok (.iload_n 1, 1) := by decide +kernel
theorem dL_drowned_4 : decode cL_drowned 4 = .ok (.iload_n 2, 1) := by decide +kernel
theorem dL_drowned_5 : decode cL_drowned 5 = .ok (.invokevirtual 45, 3) := by decide +kernel
theorem dL_drowned_8 : decode cL_drowned 8 = .ok (.i2l, 1) := by decide +kernel
theorem dL_drowned_9 : decode cL_drowned 9 = .ok (.lastore, 1) := by decide +kernel
theorem dL_drowned_10 : decode cL_drowned 10 = .ok (.goto 7, 3) := by decide +kernel
theorem dL_drowned_13 : decode cL_drowned 13 = .ok (.astore 4, 2) := by decide +kernel
theorem dL_drowned_15 : decode cL_drowned 15 = .ok (.iconst 1, 1) := by decide +kernel
theorem dL_drowned_16 : decode cL_drowned 16 = .ok (.ireturn, 1) := by decide +kernel
theorem dL_drowned_17 : decode cL_drowned 17 = .ok (.iconst 0, 1) := by decide +kernel
theorem dL_drowned_18 : decode cL_drowned 18 = .ok (.ireturn, 1) := by decide +kernel
set_option maxRecDepth 20000 in
theorem ggL_bin_X5_bin : GoodIn wsL_bin wsX5_bin := goodIn_ca (goodIn_r _ [6, 7, 8, 9, 10, 11, 12, 13, 14, 15, 16, 17, 18, 5, 19, 20, 21, 22, 23, 24, 25, 26, 27, 28, 29, 30, 31, 32, 33, 34, 35, 36, 37, 38, 39, 40, 41, 42, 43, 44, 45, 46, 47, 48, 49, 50, 51, 52, 53, 54, 55, 56, 57, 58, 59, 60, 61, 62, 63, 64, 65, 66, 67, 68, 69, 70, 71, 72, 73, 74, 75, 76, 77, 78, 79, 80, 81, 82, 83, 84, 85, 86, 87, 88, 89] (by decide +kernel) (by decide +kernel)) (goodIn_sub (fun _ h => List.mem_cons_of_mem _ (List.mem_append_right _ h)) (by decide +kernel))
set_option maxRecDepth 20000 in
theorem gL_bin_X5_bin : GoodIn wsL_bin (wsV RL 48 RX5 yX5_bin wsX5_bin) := goodIn_app (goodIn_of _ (by decide +kernel)) ggL_bin_X5_bin
theorem dL_bin_0 : decode cL_bin 0 = .ok (.aload_n 3, 1) := by decide +kernel
theorem dL_bin_1 : decode cL_bin 1 = .ok (.iconst 0, 1) := by decide +kernel
theorem dL_bin_2 : decode cL_bin 2 = .ok (.aload_n 0, 1) := by decide +kernel
theorem dL_bin_3 : decode cL_bin 3 = .ok (.iload_n 1, 1) := by decide +kernel
theorem dL_bin_4 : decode cL_bin 4 = .ok (.iload_n 2, 1) := by decide +kernel
theorem dL_bin_5 : decode cL_bin 5 = .ok (.invokevirtual 48, 3) := by decide +kernel
theorem dL_bin_8 : decode cL_bin 8 = .ok (.i2l, 1) := by decide +kernel
theorem dL_bin_9 : decode cL_bin 9 = .ok (.lastore, 1) := by decide +kernel
theorem dL_bin_10 : decode cL_bin 10 = .ok (.goto 7, 3) := by decide +kernel
theorem dL_bin_13 : decode cL_bin 13 = .ok (.astore 4, 2) := by decide +kernel
theorem dL_bin_15 : decode cL_bin 15 = .ok (.iconst 1, 1) := by decide +kernel
theorem dL_bin_16 : decode cL_bin 16 = .ok (.ireturn, 1) := by decide +kernel
theorem dL_bin_17 : decode cL_bin 17 = .ok (.iconst 0, 1) := by decide +kernel
theorem dL_bin_18 : decode cL_bin 18 = .ok (.ireturn, 1) := by decide +kernel
set_option maxRecDepth 20000 in
theorem ggL_pass_X5_pass : GoodIn wsL_pass wsX5_pass := goodIn_ca (goodIn_r _ [6, 7, 8, 9, 10, 11, 5, 12, 13, 14, 15, 16, 17, 18, 19, 20, 21, 22, 23, 24, 25, 26, 27, 28, 29, 30, 31, 32, 33, 34, 35, 36, 37, 38, 39, 40, 41, 42, 43, 44, 45, 46, 47, 48, 49, 50, 51, 52, 53, 54, 55, 56, 57, 58, 59, 60, 61, 62, 63, 64, 65, 66, 67, 68, 69, 70, 71, 72, 73, 74, 75, 76, 77, 78, 79, 80, 81, 82, 83, 84, 85, 86, 87, 88, 89, 90, 91, 92, 93, 94, 95, 96, 97, 98, 99, 100, 101, 102, 103, 104, 105, 106, 107, 108, 109, 110, 111, 112, 113, 114, 115, 116, 117, 118, 119, 120, 121, 122, 123, 124, 125, 126, 127, 128, 129, 130, 131, 132, 133, 134, 135, 136, 137, 138, 139, 140, 141, 142, 143, 144, 145, 146, 147, 148, 149, 150, 151, 152, 153, 154, 155, 156, 157, 158, 159, 160, 161, 162, 163, 164, 165, 166, 167, 168, 169, 170, 171, 172, 173, 174, 175, 176, 177, 178, 179, 180, 181, 182, 183, 184, 185, 186, 187, 188, 189, 190, 191, 192, 193, 194, 195, 196, 197, 198, 199, 200, 201] (by decide +kernel) (by decide +kernel)) (goodIn_sub (fun _ h => List.mem_cons_of_mem _ (List.mem_append_right _ h)) (by decide +kernel))
set_option maxRecDepth 20000 in
theorem gL_pass_X5_pass : GoodIn wsL_pass (wsV RL 51 RX5 yX5_pass wsX5_pass) := goodIn_app (goodIn_of _ (by decide +kernel)) ggL_pass_X5_pass
theorem dL_pass_0 : decode cL_pass 0 = .ok (.aload_n 2, 1) := by decide +kernel
theorem dL_pass_1 : decode cL_pass 1 = .ok (.iconst 0, 1) := by decide +kernel
theorem dL_pass_2 : decode cL_pass 2 = .ok (.aload_n 0, 1) := by decide +kernel
theorem dL_pass_3 : decode cL_pass 3 = .ok (.iload_n 1, 1) := by decide +kernel
theorem dL_pass_4 : decode cL_pass 4 = .ok (.invokevirtual 51, 3) := by decide +kernel
theorem dL_pass_7 : decode cL_pass 7 = .ok (.i2l, 1) := by decide +kernel
theorem dL_pass_8 : decode cL_pass 8 = .ok (.lastore, 1) := by decide +kernel
theorem dL_pass_9 : decode cL_pass 9 = .ok (.goto 6, 3) := by decide +kernel
theorem dL_pass_12 : decode cL_pass 12 = .ok (.astore_n 3, 1) := by decide +kernel
theorem dL_pass_13 : decode cL_pass 13 = .ok (.iconst 1, 1) := by decide +kernel
theorem dL_pass_14 : decode cL_pass 14 = .ok (.ireturn, 1) := by decide +kernel
theorem dL_pass_15 : decode cL_pass 15 = .ok (.iconst 0, 1) := by decide +kernel
theorem dL_pass_16 : decode cL_pass 16 = .ok (.ireturn, 1) := by decide +kernel
set_option maxRecDepth 20000 in
theorem ggL_count_X5_count : GoodIn wsL_count wsX5_count := goodIn_ca (goodIn_r _ [6, 7, 8, 9, 10, 11, 5, 12, 13, 14, 15, 16, 17, 18, 19, 20, 21, 22, 23, 24, 25, 26, 27, 28, 29, 30, 31, 32, 33, 34, 35, 36, 37, 38, 39, 40, 41, 42, 43, 44, 45, 46, 47, 48, 49, 50, 51, 52, 53, 54, 55, 56, 57, 58, 59, 60, 61, 62, 63, 64, 65, 66, 67, 68, 69] (by decide +kernel) (by decide +kernel)) (goodIn_sub (fun _ h => List.mem_cons_of_mem _ (List.mem_append_right _ h)) (by decide +kernel))
set_option maxRecDepth 20000 in
theorem gL_count_X5_count : GoodIn wsL_count (wsV RL 54 RX5 yX5_count wsX5_count) := goodIn_app (goodIn_of _ (by decide +kernel)) ggL_count_X5_count
theorem dL_count_0 : decode cL_count 0 = .ok (.aload_n 2, 1) := by decide +kernel
theorem dL_count_1 : decode cL_count 1 = .ok (.iconst 0, 1) := by decide +kernel
theorem dL_count_2 : decode cL_count 2 = .ok (.aload_n 0, 1) := by decide +kernel
theorem dL_count_3 : decode cL_count 3 = .ok (.iload_n 1, 1) := by decide +kernel
theorem dL_count_4 : decode cL_count 4 = .ok (.invokevirtual 54, 3) := by decide +kernel
theorem dL_count_7 : decode cL_count 7 = .ok (.i2l, 1) := by decide +kernel
theorem dL_count_8 : decode cL_count 8 = .ok (.lastore, 1) := by decide +kernel
theorem dL_count_9 : decode cL_count 9 = .ok (.goto 6, 3) := by decide +kernel
theorem dL_count_12 : decode cL_count 12 = .ok (.astore_n 3, 1) := by decide +kernel
theorem dL_count_13 : decode cL_count 13 = .ok (.iconst 1, 1) := by decide +kernel
theorem dL_count_14 : decode cL_count 14 = .ok (.ireturn, 1) := by decide +kernel
theorem dL_count_15 : decode cL_count 15 = .ok (.iconst 0, 1) := by decide +kernel
theorem dL_count_16 : decode cL_count 16 = .ok (.ireturn, 1) := by decide +kernel
set_option maxRecDepth 20000 in
theorem ggL_binFor_X5_binFor : GoodIn wsL_binFor wsX5_binFor := goodIn_ca (goodIn_r _ [6, 7, 8, 9, 10, 11, 12, 13, 14, 15, 16, 17, 18, 19, 20, 21, 22, 23, 24, 25, 26, 27, 28, 29, 30, 31, 32, 33, 34, 35, 36, 37, 38, 39, 40, 41, 42, 43, 44, 45, 46, 47, 48, 49, 50, 51, 52, 53, 54, 55, 56, 57, 58, 59, 60, 61, 62] (by decide +kernel) (by decide +kernel)) (goodIn_sub (fun _ h => List.mem_cons_of_mem _ (List.mem_append_right _ h)) (by decide +kernel))
set_option maxRecDepth 20000 in
theorem gL_binFor_X5_binFor : GoodIn wsL_binFor (wsV RL 57 RX5 yX5_binFor wsX5_binFor) := goodIn_app (goodIn_of _ (by decide +kernel)) ggL_binFor_X5_binFor
theorem dL_binFor_0 : decode cL_binFor 0 = .ok (.aload_n 2, 1) := by decide +kernel
theorem dL_binFor_1 : decode cL_binFor 1 = .ok (.iconst 0, 1) := by decide +kernel
theorem dL_binFor_2 : decode cL_binFor 2 = .ok (.aload_n 0, 1) := by decide +kernel
theorem dL_binFor_3 : decode cL_binFor 3 = .ok (.iload_n 1, 1) := by decide +kernel
theorem dL_binFor_4 : decode cL_binFor 4 = .ok (.invokevirtual 57, 3) := by decide +kernel
theorem dL_binFor_7 : decode cL_binFor 7 = .ok (.i2l, 1) := by decide +kernel
theorem dL_binFor_8 : decode cL_binFor 8 = .ok (.lastore, 1) := by decide +kernel
theorem dL_binFor_9 : decode cL_binFor 9 = .ok (.goto 6, 3) := by decide +kernel
theorem dL_binFor_12 : decode cL_binFor 12 = .ok (.astore_n 3, 1) := by decide +kernel
theorem dL_binFor_13 : decode cL_binFor 13 = .ok (.iconst 1, 1) := by decide +kernel
theorem dL_binFor_14 : decode cL_binFor 14 = .ok (.ireturn, 1) := by decide +kernel
theorem dL_binFor_15 : decode cL_binFor 15 = .ok (.iconst 0, 1) := by decide +kernel
theorem dL_binFor_16 : decode cL_binFor 16 = .ok (.ireturn, 1) := by decide +kernel
set_option maxRecDepth 20000 in
theorem ggL_foresee_X5_foresee : GoodIn wsL_foresee wsX5_foresee := goodIn_ca (goodIn_ca (goodIn_r _ [7, 8, 9, 10, 11, 12, 13, 14, 15, 16, 6, 17, 18, 19, 20, 21, 22, 23, 24, 25, 26, 27, 28, 29, 30, 31, 32, 33, 34, 35, 36, 37, 38, 39, 40, 41, 42, 43, 44, 45, 46, 47, 48, 49, 50, 51, 52, 53, 54, 55, 56, 57, 58, 59, 60, 61, 62, 63, 64, 65, 66, 67, 68, 69, 70, 71, 72, 73, 74, 75, 76, 77, 78, 79, 80, 81, 82, 83, 84, 85, 86, 87, 88, 89, 90, 91, 92, 93, 94, 95, 96, 97, 98, 99, 100, 101, 102, 103, 104, 105, 106, 107, 108, 109, 110, 111, 112, 113, 114, 115, 116, 117, 118, 119, 120, 121, 122, 123, 124, 125, 126, 127, 128, 129, 130, 131, 132, 133, 134, 135, 136, 137, 138, 139, 140, 141, 142, 143, 144, 145, 146, 147, 148, 149, 150, 151, 152, 153, 154, 155, 156, 157, 158, 159, 160, 161, 162, 163, 164, 165, 166, 167, 168, 169, 170, 171, 172, 173, 174, 175, 176, 177, 178, 179, 180, 181, 182, 183, 184, 185, 186, 187, 188, 189, 190, 191, 192, 193, 194, 195, 196, 197, 198, 199, 200, 201, 202, 203, 204, 205, 206, 207, 208, 209, 210, 211, 212, 213, 214, 215, 216, 217, 218, 219, 220, 221, 222, 223, 224, 225, 226, 227, 228, 229, 230, 231, 232, 233, 234, 235, 236, 237, 238, 239] (by decide +kernel) (by decide +kernel)) (goodIn_sub (fun _ h => List.mem_cons_of_mem _ (List.mem_append_left _ (List.mem_append_right _ h))) (by decide +kernel))) (goodIn_sub (fun _ h => List.mem_cons_of_mem _ (List.mem_append_right _ h)) (by decide +kernel))
set_option maxRecDepth 20000 in
theorem gL_foresee_X5_foresee : GoodIn wsL_foresee (wsV RL 60 RX5 yX5_foresee wsX5_foresee) := goodIn_app (goodIn_of _ (by decide +kernel)) ggL_foresee_X5_foresee
theorem dL_foresee_0 : decode cL_foresee 0 = .ok (.aload_n 3, 1) := by decide +kernel
theorem dL_foresee_1 : decode cL_foresee 1 = .ok (.iconst 0, 1) := by decide +kernel
theorem dL_foresee_2 : decode cL_foresee 2 = .ok (.aload_n 0, 1) := by decide +kernel
theorem dL_foresee_3 : decode cL_foresee 3 = .ok (.iload_n 1, 1) := by decide +kernel
theorem dL_foresee_4 : decode cL_foresee 4 = .ok (.iload_n 2, 1) := by decide +kernel
theorem dL_foresee_5 : decode cL_foresee 5 = .ok (.invokevirtual 60, 3) := by decide +kernel
theorem dL_foresee_8 : decode cL_foresee 8 = .ok (.i2l, 1) := by decide +kernel
theorem dL_foresee_9 : decode cL_foresee 9 = .ok (.lastore, 1) := by decide +kernel
theorem dL_foresee_10 : decode cL_foresee 10 = .ok (.goto 11, 3) := by decide +kernel
theorem dL_foresee_13 : decode cL_foresee 13 = .ok (.astore 4, 2) := by decide +kernel
theorem dL_foresee_15 : decode cL_foresee 15 = .ok (.iconst 1, 1) := by decide +kernel
theorem dL_foresee_16 : decode cL_foresee 16 = .ok (.ireturn, 1) := by decide +kernel
theorem dL_foresee_17 : decode cL_foresee 17 = .ok (.astore 4, 2) := by decide +kernel
theorem dL_foresee_19 : decode cL_foresee 19 = .ok (.iconst 2, 1) := by decide +kernel
theorem dL_foresee_20 : decode cL_foresee 20 = .ok (.ireturn, 1) := by decide +kernel
theorem dL_foresee_21 : decode cL_foresee 21 = .ok (.iconst 0, 1) := by decide +kernel
theorem dL_foresee_22 : decode cL_foresee 22 = .ok (.ireturn, 1) := by decide +kernel
set_option maxRecDepth 20000 in
theorem ggL_fate_X5_fate : GoodIn wsL_fate wsX5_fate := goodIn_ca (goodIn_ca (goodIn_r _ [7, 8, 9, 10, 11, 12, 13, 14, 15, 16, 17, 18, 19, 20, 21, 22, 23, 6, 24, 25, 26, 27, 28, 29, 30, 31, 32, 33, 34, 35, 36, 37, 38, 39, 40, 41, 42, 43, 44, 45, 46, 47, 48, 49, 50, 51, 52, 53, 54, 55, 56, 57, 58, 59, 60, 61, 62, 63, 64, 65, 66, 67, 68, 69, 70, 71, 72, 73, 74, 75, 76, 77, 78, 79, 80, 81, 82, 83, 84, 85, 86, 87, 88, 89, 90, 91, 92, 93, 94, 95, 96, 97, 98, 99, 100, 101, 102, 103, 104, 105, 106, 107, 108, 109, 110, 111, 112, 113, 114, 115, 116, 117, 118, 119, 120, 121, 122, 123, 124, 125, 126, 127, 128, 129, 130, 131, 132, 133, 134, 135, 136, 137, 138, 139, 140, 141, 142, 143, 144, 145, 146, 147, 148, 149, 150, 151, 152, 153, 154, 155, 156, 157, 158, 159, 160, 161, 162, 163, 164, 165, 166, 167, 168, 169, 170, 171, 172, 173, 174, 175, 176, 177, 178, 179, 180, 181, 182, 183, 184, 185, 186, 187, 188, 189, 190, 191, 192, 193, 194, 195, 196, 197, 198, 199, 200, 201, 202, 203, 204, 205, 206, 207, 208, 209, 210, 211, 212, 213, 214, 215, 216, 217, 218, 219, 220, 221, 222, 223, 224, 225, 226, 227, 228, 229, 230, 231, 232, 233, 234, 235, 236, 237] (by decide +kernel) (by decide +kernel)) (goodIn_sub (fun _ h => List.mem_cons_of_mem _ (List.mem_append_left _ (List.mem_append_right _ h))) (by decide +kernel))) (goodIn_sub (fun _ h => List.mem_cons_of_mem _ (List.mem_append_right _ h)) (by decide +kernel))
set_option maxRecDepth 20000 in
theorem gL_fate_X5_fate : GoodIn wsL_fate (wsV RL 63 RX5 yX5_fate wsX5_fate) := goodIn_app (goodIn_of _ (by decide +kernel)) ggL_fate_X5_fate
theorem dL_fate_0 : decode cL_fate 0 = .ok (.aload_n 3, 1) := by decide +kernel
theorem dL_fate_1 : decode cL_fate 1 = .ok (.iconst 0, 1) := by decide +kernel
theorem dL_fate_2 : decode cL_fate 2 = .ok (.aload_n 0, 1) := by decide +kernel
theorem dL_fate_3 : decode cL_fate 3 = .ok (.iload_n 1, 1) := by decide +kernel
theorem dL_fate_4 : decode cL_fate 4 = .ok (.iload_n 2, 1) := by decide +kernel
theorem dL_fate_5 : decode cL_fate 5 = .ok (.invokevirtual 63, 3) := by decide +kernel
theorem dL_fate_8 : decode cL_fate 8 = .ok (.i2l, 1) := by decide +kernel
theorem dL_fate_9 : decode cL_fate 9 = .ok (.lastore, 1) := by decide +kernel
theorem dL_fate_10 : decode cL_fate 10 = .ok (.goto 11, 3) := by decide +kernel
theorem dL_fate_13 : decode cL_fate 13 = .ok (.astore 4, 2) := by decide +kernel
theorem dL_fate_15 : decode cL_fate 15 = .ok (.iconst 1, 1) := by decide +kernel
theorem dL_fate_16 : decode cL_fate 16 = .ok (.ireturn, 1) := by decide +kernel
theorem dL_fate_17 : decode cL_fate 17 = .ok (.astore 4, 2) := by decide +kernel
theorem dL_fate_19 : decode cL_fate 19 = .ok (.iconst 2, 1) := by decide +kernel
theorem dL_fate_20 : decode cL_fate 20 = .ok (.ireturn, 1) := by decide +kernel
theorem dL_fate_21 : decode cL_fate 21 = .ok (.iconst 0, 1) := by decide +kernel
theorem dL_fate_22 : decode cL_fate 22 = .ok (.ireturn, 1) := by decide +kernel
set_option maxRecDepth 20000 in
theorem ggL_reaches_X5_reaches : GoodIn wsL_reaches wsX5_reaches := goodIn_ca (goodIn_r _ [6, 7, 8, 9, 10, 11, 12, 13, 14, 15, 16, 17, 18, 19, 20, 21, 22, 23, 24, 25, 26, 27, 28, 29, 30, 31, 32, 33, 34, 35, 36, 37, 38, 39, 40, 41, 42, 43, 44, 45, 46, 47, 48, 49, 50, 51, 52, 53, 54, 55, 56, 57, 58, 59, 60, 61, 62, 63, 64, 65, 66, 67, 68, 69, 70, 71, 72, 73, 74, 75, 76, 77] (by decide +kernel) (by decide +kernel)) (goodIn_sub (fun _ h => List.mem_cons_of_mem _ (List.mem_append_right _ h)) (by decide +kernel))
set_option maxRecDepth 20000 in
theorem gL_reaches_X5_reaches : GoodIn wsL_reaches (wsV RL 66 RX5 yX5_reaches wsX5_reaches) := goodIn_app (goodIn_of _ (by decide +kernel)) ggL_reaches_X5_reaches
theorem dL_reaches_0 : decode cL_reaches 0 = .ok (.aload_n 3, 1) := by decide +kernel
theorem dL_reaches_1 : decode cL_reaches 1 = .ok (.iconst 0, 1) := by decide +kernel
theorem dL_reaches_2 : decode cL_reaches 2 = .ok (.aload_n 0, 1) := by decide +kernel
theorem dL_reaches_3 : decode cL_reaches 3 = .ok (.iload_n 1, 1) := by decide +kernel
theorem dL_reaches_4 : decode cL_reaches 4 = .ok (.iload_n 2, 1) := by decide +kernel
theorem dL_reaches_5 : decode cL_reaches 5 = .ok (.invokevirtual 66, 3) := by decide +kernel
theorem dL_reaches_8 : decode cL_reaches 8 = .ok (.i2l, 1) := by decide +kernel
theorem dL_reaches_9 : decode cL_reaches 9 = .ok (.lastore, 1) := by decide +kernel
theorem dL_reaches_10 : decode cL_reaches 10 = .ok (.goto 7, 3) := by decide +kernel
theorem dL_reaches_13 : decode cL_reaches 13 = .ok (.astore 4, 2) := by decide +kernel
theorem dL_reaches_15 : decode cL_reaches 15 = .ok (.iconst 1, 1) := by decide +kernel
theorem dL_reaches_16 : decode cL_reaches 16 = .ok (.ireturn, 1) := by decide +kernel
theorem dL_reaches_17 : decode cL_reaches 17 = .ok (.iconst 0, 1) := by decide +kernel
theorem dL_reaches_18 : decode cL_reaches 18 = .ok (.ireturn, 1) := by decide +kernel
