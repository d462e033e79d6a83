theorem dX0_init_0 : decode cX0_init 0 = .ok (.aload_n 0, 1) := by decide +kernel
theorem dX0_init_1 : decode cX0_init 1 = .ok (.invokespecial 3, 3) := by decide +kernel
theorem dX0_init_4 : decode cX0_init 4 = .ok (.aload_n 0, 1) := by decide +kernel
theorem dX0_init_5 : decode cX0_init 5 = .ok (.bipush 10, 2) := by decide +kernel
theorem dX0_init_7 : decode cX0_init 7 = .ok (.newarray .int, 2) := by decide +kernel
theorem dX0_init_9 : decode cX0_init 9 = .ok (.putfield 9, 3) := by decide +kernel
theorem dX0_init_12 : decode cX0_init 12 = .ok (.aload_n 0, 1) := by decide +kernel
theorem dX0_init_13 : decode cX0_init 13 = .ok (.bipush 10, 2) := by decide +kernel
theorem dX0_init_15 : decode cX0_init 15 = .ok (.newarray .int, 2) := by decide +kernel
theorem dX0_init_17 : decode cX0_init 17 = .ok (.putfield 15, 3) := by decide +kernel
theorem dX0_init_20 : decode cX0_init 20 = .ok (.aload_n 0, 1) := by decide +kernel
theorem dX0_init_21 : decode cX0_init 21 = .ok (.bipush 10, 2) := by decide +kernel
theorem dX0_init_23 : decode cX0_init 23 = .ok (.newarray .int, 2) := by decide +kernel
theorem dX0_init_25 : decode cX0_init 25 = .ok (.putfield 18, 3) := by decide +kernel
theorem dX0_init_28 : decode cX0_init 28 = .ok (.return_, 1) := by decide +kernel
theorem dX0_has_0 : decode cX0_has 0 = .ok (.iload_n 1, 1) := by decide +kernel
theorem dX0_has_1 : decode cX0_has 1 = .ok (.ifCond .lt 15, 3) := by decide +kernel
theorem dX0_has_4 : decode cX0_has 4 = .ok (.iload_n 1, 1) := by decide +kernel
theorem dX0_has_5 : decode cX0_has 5 = .ok (.aload_n 0, 1) := by decide +kernel
theorem dX0_has_6 : decode cX0_has 6 = .ok (.getfield 21, 3) := by decide +kernel
theorem dX0_has_9 : decode cX0_has 9 = .ok (.if_icmp .ge 7, 3) := by decide +kernel
theorem dX0_has_12 : decode cX0_has 12 = .ok (.iconst 1, 1) := by decide +kernel
theorem dX0_has_13 : decode cX0_has 13 = .ok (.goto 4, 3) := by decide +kernel
theorem dX0_has_16 : decode cX0_has 16 = .ok (.iconst 0, 1) := by decide +kernel
theorem dX0_has_17 : decode cX0_has 17 = .ok (.ireturn, 1) := by decide +kernel
theorem dX0_append_0 : decode cX0_append 0 = .ok (.aload_n 0, 1) := by decide +kernel
theorem dX0_append_1 : decode cX0_append 1 = .ok (.getfield 21, 3) := by decide +kernel
theorem dX0_append_4 : decode cX0_append 4 = .ok (.bipush 10, 2) := by decide +kernel
theorem dX0_append_6 : decode cX0_append 6 = .ok (.if_icmp .lt 5, 3) := by decide +kernel
theorem dX0_append_9 : decode cX0_append 9 = .ok (.iconst (-1), 1) := by decide +kernel
theorem dX0_append_10 : decode cX0_append 10 = .ok (.ireturn, 1) := by decide +kernel
theorem dX0_append_11 : decode cX0_append 11 = .ok (.aload_n 0, 1) := by decide +kernel
theorem dX0_append_12 : decode cX0_append 12 = .ok (.getfield 21, 3) := by decide +kernel
theorem dX0_append_15 : decode cX0_append 15 = .ok (.istore_n 3, 1) := by decide +kernel
theorem dX0_append_16 : decode cX0_append 16 = .ok (.aload_n 0, 1) := by decide +kernel
theorem dX0_append_17 : decode cX0_append 17 = .ok (.getfield 9, 3) := by decide +kernel
theorem dX0_append_20 : decode cX0_append 20 = .ok (.iload_n 3, 1) := by decide +kernel
theorem dX0_append_21 : decode cX0_append 21 = .ok (.iload_n 1, 1) := by decide +kernel
theorem dX0_append_22 : decode cX0_append 22 = .ok (.iastore, 1) := by decide +kernel
theorem dX0_append_23 : decode cX0_append 23 = .ok (.aload_n 0, 1) := by decide +kernel
theorem dX0_append_24 : decode cX0_append 24 = .ok (.getfield 15, 3) := by decide +kernel
theorem dX0_append_27 : decode cX0_append 27 = .ok (.iload_n 3, 1) := by decide +kernel
theorem dX0_append_28 : decode cX0_append 28 = .ok (.iload_n 2, 1) := by decide +kernel
theorem dX0_append_29 : decode cX0_append 29 = .ok (.iastore, 1) := by decide +kernel
theorem dX0_append_30 : decode cX0_append 30 = .ok (.aload_n 0, 1) := by decide +kernel
theorem dX0_append_31 : decode cX0_append 31 = .ok (.getfield 18, 3) := by decide +kernel
theorem dX0_append_34 : decode cX0_append 34 = .ok (.iload_n 3, 1) := by decide +kernel
theorem dX0_append_35 : decode cX0_append 35 = .ok (.iconst 0, 1) := by decide +kernel
theorem dX0_append_36 : decode cX0_append 36 = .ok (.iastore, 1) := by decide +kernel
theorem dX0_append_37 : decode cX0_append 37 = .ok (.aload_n 0, 1) := by decide +kernel
theorem dX0_append_38 : decode cX0_append 38 = .ok (.dup, 1) := by decide +kernel
theorem dX0_append_39 : decode cX0_append 39 = .ok (.getfield 21, 3) := by decide +kernel
theorem dX0_append_42 : decode cX0_append 42 = .ok (.iconst 1, 1) := by decide +kernel
theorem dX0_append_43 : decode cX0_append 43 = .ok (.iadd, 1) := by decide +kernel
theorem dX0_append_44 : decode cX0_append 44 = .ok (.putfield 21, 3) := by decide +kernel
theorem dX0_append_47 : decode cX0_append 47 = .ok (.iload_n 3, 1) := by decide +kernel
theorem dX0_append_48 : decode cX0_append 48 = .ok (.ireturn, 1) := by decide +kernel
theorem dX0_isUnder_0 : decode cX0_isUnder 0 = .ok (.iload_n 1, 1) := by decide +kernel
theorem dX0_isUnder_1 : decode cX0_isUnder 1 = .ok (.ifCond .lt 25, 3) := by decide +kernel
theorem dX0_isUnder_4 : decode cX0_isUnder 4 = .ok (.iload_n 1, 1) := by decide +kernel
theorem dX0_isUnder_5 : decode cX0_isUnder 5 = .ok (.aload_n 0, 1) := by decide +kernel
theorem dX0_isUnder_6 : decode cX0_isUnder 6 = .ok (.getfield 21, 3) := by decide +kernel
theorem dX0_isUnder_9 : decode cX0_isUnder 9 = .ok (.if_icmp .ge 17, 3) := by decide +kernel
theorem dX0_isUnder_12 : decode cX0_isUnder 12 = .ok (.iload_n 2, 1) := by decide +kernel
theorem dX0_isUnder_13 : decode cX0_isUnder 13 = .ok (.aload_n 0, 1) := by decide +kernel
theorem dX0_isUnder_14 : decode cX0_isUnder 14 = .ok (.getfield 9, 3) := by decide +kernel
theorem dX0_isUnder_17 : decode cX0_isUnder 17 = .ok (.iload_n 1, 1) := by decide +kernel
theorem dX0_isUnder_18 : decode cX0_isUnder 18 = .ok (.iaload, 1) := by decide +kernel
theorem dX0_isUnder_19 : decode cX0_isUnder 19 = .ok (.if_icmp .le 7, 3) := by decide +kernel
theorem dX0_isUnder_22 : decode cX0_isUnder 22 = .ok (.iconst 1, 1) := by decide +kernel
theorem dX0_isUnder_23 : decode cX0_isUnder 23 = .ok (.goto 4, 3) := by decide +kernel
theorem dX0_isUnder_26 : decode cX0_isUnder 26 = .ok (.iconst 0, 1) := by decide +kernel
theorem dX0_isUnder_27 : decode cX0_isUnder 27 = .ok (.ireturn, 1) := by decide +kernel
set_option maxRecDepth 20000 in
theorem ggX0_nearestWithRoom_X0_isNearer : GoodIn wsX0_nearestWithRoom wsX0_isNearer := goodIn_r _ [8, 9, 10, 11, 12, 13, 14, 15, 16, 17] (by decide +kernel) (by decide +kernel)
set_option maxRecDepth 20000 in
theorem gX0_nearestWithRoom_X0_isNearer : GoodIn wsX0_nearestWithRoom (wsV RX0 25 RX0 yX0_isNearer wsX0_isNearer) := goodIn_app (goodIn_of _ (by decide +kernel)) ggX0_nearestWithRoom_X0_isNearer
theorem dX0_nearestWithRoom_0 : decode cX0_nearestWithRoom 0 = .ok (.iconst (-1), 1) := by decide +kernel
theorem dX0_nearestWithRoom_1 : decode cX0_nearestWithRoom 1 = .ok (.istore_n 2, 1) := by decide +kernel
theorem dX0_nearestWithRoom_2 : decode cX0_nearestWithRoom 2 = .ok (.iconst 0, 1) := by decide +kernel
theorem dX0_nearestWithRoom_3 : decode cX0_nearestWithRoom 3 = .ok (.istore_n 3, 1) := by decide +kernel
theorem dX0_nearestWithRoom_4 : decode cX0_nearestWithRoom 4 = .ok (.iload_n 3, 1) := by decide +kernel
theorem dX0_nearestWithRoom_5 : decode cX0_nearestWithRoom 5 = .ok (.aload_n 0, 1) := by decide +kernel
theorem dX0_nearestWithRoom_6 : decode cX0_nearestWithRoom 6 = .ok (.getfield 21, 3) := by decide +kernel
theorem dX0_nearestWithRoom_9 : decode cX0_nearestWithRoom 9 = .ok (.if_icmp .ge 41, 3) := by decide +kernel
theorem dX0_nearestWithRoom_12 : decode cX0_nearestWithRoom 12 = .ok (.aload_n 0, 1) := by decide +kernel
theorem dX0_nearestWithRoom_13 : decode cX0_nearestWithRoom 13 = .ok (.getfield 18, 3) := by decide +kernel
theorem dX0_nearestWithRoom_16 : decode cX0_nearestWithRoom 16 = .ok (.iload_n 3, 1) := by decide +kernel
theorem dX0_nearestWithRoom_17 : decode cX0_nearestWithRoom 17 = .ok (.iaload, 1) := by decide +kernel
theorem dX0_nearestWithRoom_18 : decode cX0_nearestWithRoom 18 = .ok (.aload_n 0, 1) := by decide +kernel
theorem dX0_nearestWithRoom_19 : decode cX0_nearestWithRoom 19 = .ok (.getfield 15, 3) := by decide +kernel
theorem dX0_nearestWithRoom_22 : decode cX0_nearestWithRoom 22 = .ok (.iload_n 3, 1) := by decide +kernel
theorem dX0_nearestWithRoom_23 : decode cX0_nearestWithRoom 23 = .ok (.iaload, 1) := by decide +kernel
theorem dX0_nearestWithRoom_24 : decode cX0_nearestWithRoom 24 = .ok (.if_icmp .ge 20, 3) := by decide +kernel
theorem dX0_nearestWithRoom_27 : decode cX0_nearestWithRoom 27 = .ok (.iload_n 2, 1) := by decide +kernel
theorem dX0_nearestWithRoom_28 : decode cX0_nearestWithRoom 28 = .ok (.iconst (-1), 1) := by decide +kernel
theorem dX0_nearestWithRoom_29 : decode cX0_nearestWithRoom 29 = .ok (.if_icmp .eq 13, 3) := by decide +kernel
theorem dX0_nearestWithRoom_32 : decode cX0_nearestWithRoom 32 = .ok (.aload_n 0, 1) := by decide +kernel
theorem dX0_nearestWithRoom_33 : decode cX0_nearestWithRoom 33 = .ok (.iload_n 3, 1) := by decide +kernel
theorem dX0_nearestWithRoom_34 : decode cX0_nearestWithRoom 34 = .ok (.iload_n 2, 1) := by decide +kernel
theorem dX0_nearestWithRoom_35 : decode cX0_nearestWithRoom 35 = .ok (.iload_n 1, 1) := by decide +kernel
theorem dX0_nearestWithRoom_36 : decode cX0_nearestWithRoom 36 = .ok (.invokevirtual 25, 3) := by decide +kernel
theorem dX0_nearestWithRoom_39 : decode cX0_nearestWithRoom 39 = .ok (.ifCond .eq 5, 3) := by decide +kernel
theorem dX0_nearestWithRoom_42 : decode cX0_nearestWithRoom 42 = .ok (.iload_n 3, 1) := by decide +kernel
theorem dX0_nearestWithRoom_43 : decode cX0_nearestWithRoom 43 = .ok (.istore_n 2, 1) := by decide +kernel
theorem dX0_nearestWithRoom_44 : decode cX0_nearestWithRoom 44 = .ok (.iinc 3 1, 3) := by decide +kernel
theorem dX0_nearestWithRoom_47 : decode cX0_nearestWithRoom 47 = .ok (.goto (-43), 3) := by decide +kernel
theorem dX0_nearestWithRoom_50 : decode cX0_nearestWithRoom 50 = .ok (.iload_n 2, 1) := by decide +kernel
theorem dX0_nearestWithRoom_51 : decode cX0_nearestWithRoom 51 = .ok (.ireturn, 1) := by decide +kernel
theorem dX0_isNearer_0 : decode cX0_isNearer 0 = .ok (.aload_n 0, 1) := by decide +kernel
theorem dX0_isNearer_1 : decode cX0_isNearer 1 = .ok (.getfield 9, 3) := by decide +kernel
theorem dX0_isNearer_4 : decode cX0_isNearer 4 = .ok (.iload_n 1, 1) := by decide +kernel
theorem dX0_isNearer_5 : decode cX0_isNearer 5 = .ok (.iaload, 1) := by decide +kernel
theorem dX0_isNearer_6 : decode cX0_isNearer 6 = .ok (.iload_n 3, 1) := by decide +kernel
theorem dX0_isNearer_7 : decode cX0_isNearer 7 = .ok (.isub, 1) := by decide +kernel
theorem dX0_isNearer_8 : decode cX0_isNearer 8 = .ok (.invokestatic 29, 3) := by decide +kernel
theorem dX0_isNearer_11 : decode cX0_isNearer 11 = .ok (.istore 4, 2) := by decide +kernel
theorem dX0_isNearer_13 : decode cX0_isNearer 13 = .ok (.aload_n 0, 1) := by decide +kernel
theorem dX0_isNearer_14 : decode cX0_isNearer 14 = .ok (.getfield 9, 3) := by decide +kernel
theorem dX0_isNearer_17 : decode cX0_isNearer 17 = .ok (.iload_n 2, 1) := by decide +kernel
theorem dX0_isNearer_18 : decode cX0_isNearer 18 = .ok (.iaload, 1) := by decide +kernel
theorem dX0_isNearer_19 : decode cX0_isNearer 19 = .ok (.iload_n 3, 1) := by decide +kernel
theorem dX0_isNearer_20 : decode cX0_isNearer 20 = .ok (.isub, 1) := by decide +kernel
theorem dX0_isNearer_21 : decode cX0_isNearer 21 = .ok (.invokestatic 29, 3) := by decide +kernel
theorem dX0_isNearer_24 : decode cX0_isNearer 24 = .ok (.istore 5, 2) := by decide +kernel
theorem dX0_isNearer_26 : decode cX0_isNearer 26 = .ok (.iload 4, 2) := by decide +kernel
theorem dX0_isNearer_28 : decode cX0_isNearer 28 = .ok (.iload 5, 2) := by decide +kernel
theorem dX0_isNearer_30 : decode cX0_isNearer 30 = .ok (.if_icmp .lt 25, 3) := by decide +kernel
theorem dX0_isNearer_33 : decode cX0_isNearer 33 = .ok (.iload 4, 2) := by decide +kernel
theorem dX0_isNearer_35 : decode cX0_isNearer 35 = .ok (.iload 5, 2) := by decide +kernel
theorem dX0_isNearer_37 : decode cX0_isNearer 37 = .ok (.if_icmp .ne 22, 3) := by decide +kernel
theorem dX0_isNearer_40 : decode cX0_isNearer 40 = .ok (.aload_n 0, 1) := by decide +kernel
theorem dX0_isNearer_41 : decode cX0_isNearer 41 = .ok (.getfield 9, 3) := by decide +kernel
theorem dX0_isNearer_44 : decode cX0_isNearer 44 = .ok (.iload_n 1, 1) := by decide +kernel
theorem dX0_isNearer_45 : decode cX0_isNearer 45 = .ok (.iaload, 1) := by decide +kernel
theorem dX0_isNearer_46 : decode cX0_isNearer 46 = .ok (.aload_n 0, 1) := by decide +kernel
theorem dX0_isNearer_47 : decode cX0_isNearer 47 = .ok (.getfield 9, 3) := by decide +kernel
theorem dX0_isNearer_50 : decode cX0_isNearer 50 = .ok (.iload_n 2, 1) := by decide +kernel
theorem dX0_isNearer_51 : decode cX0_isNearer 51 = .ok (.iaload, 1) := by decide +kernel
theorem dX0_isNearer_52 : decode cX0_isNearer 52 = .ok (.if_icmp .ge 7, 3) := by decide +kernel
theorem dX0_isNearer_55 : decode cX0_isNearer 55 = .ok (.iconst 1, 1) := by decide +kernel
theorem dX0_isNearer_56 : decode cX0_isNearer 56 = .ok (.goto 4, 3) := by decide +kernel
theorem dX0_isNearer_59 : decode cX0_isNearer 59 = .ok (.iconst 0, 1) := by decide +kernel
theorem dX0_isNearer_60 : decode cX0_isNearer 60 = .ok (.ireturn, 1) := by decide +kernel
theorem dX1_init_0 : decode cX1_init 0 = .ok (.aload_n 0, 1) := by decide +kernel
theorem dX1_init_1 : decode cX1_init 1 = .ok (.invokespecial 3, 3) := by decide +kernel
theorem dX1_init_4 : decode cX1_init 4 = .ok (.aload_n 0, 1) := by decide +kernel
theorem dX1_init_5 : decode cX1_init 5 = .ok (.bipush 16, 2) := by decide +kernel
theorem dX1_init_7 : decode cX1_init 7 = .ok (.newarray .int, 2) := by decide +kernel
theorem dX1_init_9 : decode cX1_init 9 = .ok (.putfield 9, 3) := by decide +kernel
theorem dX1_init_12 : decode cX1_init 12 = .ok (.aload_n 0, 1) := by decide +kernel
theorem dX1_init_13 : decode cX1_init 13 = .ok (.bipush 16, 2) := by decide +kernel
theorem dX1_init_15 : decode cX1_init 15 = .ok (.newarray .int, 2) := by decide +kernel
theorem dX1_init_17 : decode cX1_init 17 = .ok (.putfield 15, 3) := by decide +kernel
theorem dX1_init_20 : decode cX1_init 20 = .ok (.aload_n 0, 1) := by decide +kernel
theorem dX1_init_21 : decode cX1_init 21 = .ok (.bipush 16, 2) := by decide +kernel
theorem dX1_init_23 : decode cX1_init 23 = .ok (.newarray .int, 2) := by decide +kernel
theorem dX1_init_25 : decode cX1_init 25 = .ok (.putfield 18, 3) := by decide +kernel
theorem dX1_init_28 : decode cX1_init 28 = .ok (.aload_n 0, 1) := by decide +kernel
theorem dX1_init_29 : decode cX1_init 29 = .ok (.bipush 16, 2) := by decide +kernel
theorem dX1_init_31 : decode cX1_init 31 = .ok (.newarray .int, 2) := by decide +kernel
theorem dX1_init_33 : decode cX1_init 33 = .ok (.putfield 21, 3) := by decide +kernel
theorem dX1_init_36 : decode cX1_init 36 = .ok (.aload_n 0, 1) := by decide +kernel
theorem dX1_init_37 : decode cX1_init 37 = .ok (.bipush 16, 2) := by decide +kernel
theorem dX1_init_39 : decode cX1_init 39 = .ok (.newarray .int, 2) := by decide +kernel
theorem dX1_init_41 : decode cX1_init 41 = .ok (.putfield 24, 3) := by decide +kernel
theorem dX1_init_44 : decode cX1_init 44 = .ok (.return_, 1) := by decide +kernel
theorem dX1_has_0 : decode cX1_has 0 = .ok (.iload_n 1, 1) := by decide +kernel
theorem dX1_has_1 : decode cX1_has 1 = .ok (.ifCond .lt 15, 3) := by decide +kernel
theorem dX1_has_4 : decode cX1_has 4 = .ok (.iload_n 1, 1) := by decide +kernel
theorem dX1_has_5 : decode cX1_has 5 = .ok (.aload_n 0, 1) := by decide +kernel
theorem dX1_has_6 : decode cX1_has 6 = .ok (.getfield 27, 3) := by decide +kernel
theorem dX1_has_9 : decode cX1_has 9 = .ok (.if_icmp .ge 7, 3) := by decide +kernel
theorem dX1_has_12 : decode cX1_has 12 = .ok (.iconst 1, 1) := by decide +kernel
theorem dX1_has_13 : decode cX1_has 13 = .ok (.goto 4, 3) := by decide +kernel
theorem dX1_has_16 : decode cX1_has 16 = .ok (.iconst 0, 1) := by decide +kernel
theorem dX1_has_17 : decode cX1_has 17 = .ok (.ireturn, 1) := by decide +kernel
theorem dX1_append_0 : decode cX1_append 0 = .ok (.aload_n 0, 1) := by decide +kernel
theorem dX1_append_1 : decode cX1_append 1 = .ok (.getfield 27, 3) := by decide +kernel
theorem dX1_append_4 : decode cX1_append 4 = .ok (.bipush 16, 2) := by decide +kernel
theorem dX1_append_6 : decode cX1_append 6 = .ok (.if_icmp .lt 5, 3) := by decide +kernel
theorem dX1_append_9 : decode cX1_append 9 = .ok (.iconst (-1), 1) := by decide +kernel
theorem dX1_append_10 : decode cX1_append 10 = .ok (.ireturn, 1) := by decide +kernel
theorem dX1_append_11 : decode cX1_append 11 = .ok (.aload_n 0, 1) := by decide +kernel
theorem dX1_append_12 : decode cX1_append 12 = .ok (.getfield 27, 3) := by decide +kernel
theorem dX1_append_15 : decode cX1_append 15 = .ok (.istore 4, 2) := by decide +kernel
theorem dX1_append_17 : decode cX1_append 17 = .ok (.aload_n 0, 1) := by decide +kernel
theorem dX1_append_18 : decode cX1_append 18 = .ok (.getfield 9, 3) := by decide +kernel
theorem dX1_append_21 : decode cX1_append 21 = .ok (.iload 4, 2) := by decide +kernel
theorem dX1_append_23 : decode cX1_append 23 = .ok (.iload_n 1, 1) := by decide +kernel
theorem dX1_append_24 : decode cX1_append 24 = .ok (.iastore, 1) := by decide +kernel
theorem dX1_append_25 : decode cX1_append 25 = .ok (.aload_n 0, 1) := by decide +kernel
theorem dX1_append_26 : decode cX1_append 26 = .ok (.getfield 15, 3) := by decide +kernel
theorem dX1_append_29 : decode cX1_append 29 = .ok (.iload 4, 2) := by decide +kernel
theorem dX1_append_31 : decode cX1_append 31 = .ok (.iload_n 2, 1) := by decide +kernel
theorem dX1_append_32 : decode cX1_append 32 = .ok (.iastore, 1) := by decide +kernel
theorem dX1_append_33 : decode cX1_append 33 = .ok (.aload_n 0, 1) := by decide +kernel
theorem dX1_append_34 : decode cX1_append 34 = .ok (.getfield 18, 3) := by decide +kernel
theorem dX1_append_37 : decode cX1_append 37 = .ok (.iload 4, 2) := by decide +kernel
theorem dX1_append_39 : decode cX1_append 39 = .ok (.iload_n 3, 1) := by decide +kernel
theorem dX1_append_40 : decode cX1_append 40 = .ok (.iastore, 1) := by decide +kernel
theorem dX1_append_41 : decode cX1_append 41 = .ok (.aload_n 0, 1) := by decide +kernel
theorem dX1_append_42 : decode cX1_append 42 = .ok (.getfield 21, 3) := by decide +kernel
theorem dX1_append_45 : decode cX1_append 45 = .ok (.iload 4, 2) := by decide +kernel
theorem dX1_append_47 : decode cX1_append 47 = .ok (.iconst 0, 1) := by decide +kernel
theorem dX1_append_48 : decode cX1_append 48 = .ok (.iastore, 1) := by decide +kernel
theorem dX1_append_49 : decode cX1_append 49 = .ok (.aload_n 0, 1) := by decide +kernel
theorem dX1_append_50 : decode cX1_append 50 = .ok (.getfield 24, 3) := by decide +kernel
theorem dX1_append_53 : decode cX1_append 53 = .ok (.iload 4, 2) := by decide +kernel
theorem dX1_append_55 : decode cX1_append 55 = .ok (.iconst 0, 1) := by decide +kernel
theorem dX1_append_56 : decode cX1_append 56 = .ok (.iastore, 1) := by decide +kernel
theorem dX1_append_57 : decode cX1_append 57 = .ok (.aload_n 0, 1) := by decide +kernel
theorem dX1_append_58 : decode cX1_append 58 = .ok (.dup, 1) := by decide +kernel
theorem dX1_append_59 : decode cX1_append 59 = .ok (.getfield 27, 3) := by decide +kernel
theorem dX1_append_62 : decode cX1_append 62 = .ok (.iconst 1, 1) := by decide +kernel
theorem dX1_append_63 : decode cX1_append 63 = .ok (.iadd, 1) := by decide +kernel
theorem dX1_append_64 : decode cX1_append 64 = .ok (.putfield 27, 3) := by decide +kernel
theorem dX1_append_67 : decode cX1_append 67 = .ok (.iload 4, 2) := by decide +kernel
theorem dX1_append_69 : decode cX1_append 69 = .ok (.ireturn, 1) := by decide +kernel
set_option maxRecDepth 20000 in
theorem ggX1_heightOf_X1_has : GoodIn wsX1_heightOf wsX1_has := goodIn_r _ [6, 7, 8, 9, 10, 11, 12, 13] (by decide +kernel) (by decide +kernel)
set_option maxRecDepth 20000 in
theorem gX1_heightOf_X1_has : GoodIn wsX1_heightOf (wsV RX1 31 RX1 yX1_has wsX1_has) := goodIn_app (goodIn_of _ (by decide +kernel)) ggX1_heightOf_X1_has
theorem dX1_heightOf_0 : decode cX1_heightOf 0 = .ok (.aload_n 0, 1) := by decide +kernel
theorem dX1_heightOf_1 : decode cX1_heightOf 1 = .ok (.iload_n 1, 1) := by decide +kernel
theorem dX1_heightOf_2 : decode cX1_heightOf 2 = .ok (.invokevirtual 31, 3) := by decide +kernel
theorem dX1_heightOf_5 : decode cX1_heightOf 5 = .ok (.ifCond .eq 12, 3) := by decide +kernel
theorem dX1_heightOf_8 : decode cX1_heightOf 8 = .ok (.aload_n 0, 1) := by decide +kernel
theorem dX1_heightOf_9 : decode cX1_heightOf 9 = .ok (.getfield 9, 3) := by decide +kernel
theorem dX1_heightOf_12 : decode cX1_heightOf 12 = .ok (.iload_n 1, 1) := by decide +kernel
theorem dX1_heightOf_13 : decode cX1_heightOf 13 = .ok (.iaload, 1) := by decide +kernel
theorem dX1_heightOf_14 : decode cX1_heightOf 14 = .ok (.goto 4, 3) := by decide +kernel
theorem dX1_heightOf_17 : decode cX1_heightOf 17 = .ok (.iconst 0, 1) := by decide +kernel
theorem dX1_heightOf_18 : decode cX1_heightOf 18 = .ok (.ireturn, 1) := by decide +kernel
set_option maxRecDepth 20000 in
theorem ggX1_gets_X1_has : GoodIn wsX1_gets wsX1_has := goodIn_r _ [7, 8, 9, 10, 11, 12, 13, 14] (by decide +kernel) (by decide +kernel)
set_option maxRecDepth 20000 in
theorem gX1_gets_X1_has : GoodIn wsX1_gets (wsV RX1 31 RX1 yX1_has wsX1_has) := goodIn_app (goodIn_of _ (by decide +kernel)) ggX1_gets_X1_has
theorem dX1_gets_0 : decode cX1_gets 0 = .ok (.aload_n 0, 1) := by decide +kernel
theorem dX1_gets_1 : decode cX1_gets 1 = .ok (.iload_n 1, 1) := by decide +kernel
theorem dX1_gets_2 : decode cX1_gets 2 = .ok (.invokevirtual 31, 3) := by decide +kernel
theorem dX1_gets_5 : decode cX1_gets 5 = .ok (.ifCond .ne 5, 3) := by decide +kernel
theorem dX1_gets_8 : decode cX1_gets 8 = .ok (.iconst 0, 1) := by decide +kernel
theorem dX1_gets_9 : decode cX1_gets 9 = .ok (.ireturn, 1) := by decide +kernel
theorem dX1_gets_10 : decode cX1_gets 10 = .ok (.aload_n 0, 1) := by decide +kernel
theorem dX1_gets_11 : decode cX1_gets 11 = .ok (.getfield 21, 3) := by decide +kernel
theorem dX1_gets_14 : decode cX1_gets 14 = .ok (.iload_n 1, 1) := by decide +kernel
theorem dX1_gets_15 : decode cX1_gets 15 = .ok (.dup2, 1) := by decide +kernel
theorem dX1_gets_16 : decode cX1_gets 16 = .ok (.iaload, 1) := by decide +kernel
theorem dX1_gets_17 : decode cX1_gets 17 = .ok (.iconst 1, 1) := by decide +kernel
theorem dX1_gets_18 : decode cX1_gets 18 = .ok (.iadd, 1) := by decide +kernel
theorem dX1_gets_19 : decode cX1_gets 19 = .ok (.iastore, 1) := by decide +kernel
theorem dX1_gets_20 : decode cX1_gets 20 = .ok (.aload_n 0, 1) := by decide +kernel
theorem dX1_gets_21 : decode cX1_gets 21 = .ok (.getfield 15, 3) := by decide +kernel
theorem dX1_gets_24 : decode cX1_gets 24 = .ok (.iload_n 1, 1) := by decide +kernel
theorem dX1_gets_25 : decode cX1_gets 25 = .ok (.iaload, 1) := by decide +kernel
theorem dX1_gets_26 : decode cX1_gets 26 = .ok (.ifCond .le 23, 3) := by decide +kernel
theorem dX1_gets_29 : decode cX1_gets 29 = .ok (.aload_n 0, 1) := by decide +kernel
theorem dX1_gets_30 : decode cX1_gets 30 = .ok (.getfield 21, 3) := by decide +kernel
theorem dX1_gets_33 : decode cX1_gets 33 = .ok (.iload_n 1, 1) := by decide +kernel
theorem dX1_gets_34 : decode cX1_gets 34 = .ok (.iaload, 1) := by decide +kernel
theorem dX1_gets_35 : decode cX1_gets 35 = .ok (.aload_n 0, 1) := by decide +kernel
theorem dX1_gets_36 : decode cX1_gets 36 = .ok (.getfield 15, 3) := by decide +kernel
theorem dX1_gets_39 : decode cX1_gets 39 = .ok (.iload_n 1, 1) := by decide +kernel
theorem dX1_gets_40 : decode cX1_gets 40 = .ok (.iaload, 1) := by decide +kernel
theorem dX1_gets_41 : decode cX1_gets 41 = .ok (.irem, 1) := by decide +kernel
theorem dX1_gets_42 : decode cX1_gets 42 = .ok (.ifCond .ne 7, 3) := by decide +kernel
theorem dX1_gets_45 : decode cX1_gets 45 = .ok (.iconst 1, 1) := by decide +kernel
theorem dX1_gets_46 : decode cX1_gets 46 = .ok (.goto 4, 3) := by decide +kernel
theorem dX1_gets_49 : decode cX1_gets 49 = .ok (.iconst 0, 1) := by decide +kernel
theorem dX1_gets_50 : decode cX1_gets 50 = .ok (.ireturn, 1) := by decide +kernel
set_option maxRecDepth 20000 in
theorem ggX1_fact_X1_has : GoodIn wsX1_fact wsX1_has := goodIn_r _ [10, 11, 12, 13, 14, 15, 16, 17] (by decide +kernel) (by decide +kernel)
set_option maxRecDepth 20000 in
theorem gX1_fact_X1_has : GoodIn wsX1_fact (wsV RX1 31 RX1 yX1_has wsX1_has) := goodIn_app (goodIn_of _ (by decide +kernel)) ggX1_fact_X1_has
theorem dX1_fact_0 : decode cX1_fact 0 = .ok (.aload_n 0, 1) := by decide +kernel
theorem dX1_fact_1 : decode cX1_fact 1 = .ok (.iload_n 1, 1) := by decide +kernel
theorem dX1_fact_2 : decode cX1_fact 2 = .ok (.invokevirtual 31, 3) := by decide +kernel
theorem dX1_fact_5 : decode cX1_fact 5 = .ok (.ifCond .ne 5, 3) := by decide +kernel
theorem dX1_fact_8 : decode cX1_fact 8 = .ok (.iconst 0, 1) := by decide +kernel
theorem dX1_fact_9 : decode cX1_fact 9 = .ok (.ireturn, 1) := by decide +kernel
theorem dX1_fact_10 : decode cX1_fact 10 = .ok (.iload_n 2, 1) := by decide +kernel
theorem dX1_fact_11 : decode cX1_fact 11 = .ok (.tableswitch 68 0 4 #[33, 40, 47, 54, 61], 33) := by decide +kernel
theorem dX1_fact_44 : decode cX1_fact 44 = .ok (.aload_n 0, 1) := by decide +kernel
theorem dX1_fact_45 : decode cX1_fact 45 = .ok (.getfield 9, 3) := by decide +kernel
theorem dX1_fact_48 : decode cX1_fact 48 = .ok (.iload_n 1, 1) := by decide +kernel
theorem dX1_fact_49 : decode cX1_fact 49 = .ok (.iaload, 1) := by decide +kernel
theorem dX1_fact_50 : decode cX1_fact 50 = .ok (.ireturn, 1) := by decide +kernel
theorem dX1_fact_51 : decode cX1_fact 51 = .ok (.aload_n 0, 1) := by decide +kernel
theorem dX1_fact_52 : decode cX1_fact 52 = .ok (.getfield 15, 3) := by decide +kernel
theorem dX1_fact_55 : decode cX1_fact 55 = .ok (.iload_n 1, 1) := by decide +kernel
theorem dX1_fact_56 : decode cX1_fact 56 = .ok (.iaload, 1) := by decide +kernel
theorem dX1_fact_57 : decode cX1_fact 57 = .ok (.ireturn, 1) := by decide +kernel
theorem dX1_fact_58 : decode cX1_fact 58 = .ok (.aload_n 0, 1) := by decide +kernel
theorem dX1_fact_59 : decode cX1_fact 59 = .ok (.getfield 18, 3) := by decide +kernel
theorem dX1_fact_62 : decode cX1_fact 62 = .ok (.iload_n 1, 1) := by decide +kernel
theorem dX1_fact_63 : decode cX1_fact 63 = .ok (.iaload, 1) := by decide +kernel
theorem dX1_fact_64 : decode cX1_fact 64 = .ok (.ireturn, 1) := by decide +kernel
theorem dX1_fact_65 : decode cX1_fact 65 = .ok (.aload_n 0, 1) := by decide +kernel
theorem dX1_fact_66 : decode cX1_fact 66 = .ok (.getfield 21, 3) := by decide +kernel
theorem dX1_fact_69 : decode cX1_fact 69 = .ok (.iload_n 1, 1) := by decide +kernel
theorem dX1_fact_70 : decode cX1_fact 70 = .ok (.iaload, 1) := by decide +kernel
theorem dX1_fact_71 : decode cX1_fact 71 = .ok (.ireturn, 1) := by decide +kernel
theorem dX1_fact_72 : decode cX1_fact 72 = .ok (.aload_n 0, 1) := by decide +kernel
theorem dX1_fact_73 : decode cX1_fact 73 = .ok (.getfield 24, 3) := by decide +kernel
theorem dX1_fact_76 : decode cX1_fact 76 = .ok (.iload_n 1, 1) := by decide +kernel
theorem dX1_fact_77 : decode cX1_fact 77 = .ok (.iaload, 1) := by decide +kernel
theorem dX1_fact_78 : decode cX1_fact 78 = .ok (.ireturn, 1) := by decide +kernel
theorem dX1_fact_79 : decode cX1_fact 79 = .ok (.iconst 0, 1) := by decide +kernel
theorem dX1_fact_80 : decode cX1_fact 80 = .ok (.ireturn, 1) := by decide +kernel
theorem dX2_init_0 : decode cX2_init 0 = .ok (.aload_n 0, 1) := by decide +kernel
theorem dX2_init_1 : decode cX2_init 1 = .ok (.invokespecial 3, 3) := by decide +kernel
theorem dX2_init_4 : decode cX2_init 4 = .ok (.aload_n 0, 1) := by decide +kernel
theorem dX2_init_5 : decode cX2_init 5 = .ok (.sipush 150, 3) := by decide +kernel
theorem dX2_init_8 : decode cX2_init 8 = .ok (.newarray .int, 2) := by decide +kernel
theorem dX2_init_10 : decode cX2_init 10 = .ok (.putfield 9, 3) := by decide +kernel
theorem dX2_init_13 : decode cX2_init 13 = .ok (.aload_n 0, 1) := by decide +kernel
theorem dX2_init_14 : decode cX2_init 14 = .ok (.sipush 150, 3) := by decide +kernel
theorem dX2_init_17 : decode cX2_init 17 = .ok (.newarray .int, 2) := by decide +kernel
theorem dX2_init_19 : decode cX2_init 19 = .ok (.putfield 15, 3) := by decide +kernel
theorem dX2_init_22 : decode cX2_init 22 = .ok (.aload_n 0, 1) := by decide +kernel
theorem dX2_init_23 : decode cX2_init 23 = .ok (.sipush 150, 3) := by decide +kernel
theorem dX2_init_26 : decode cX2_init 26 = .ok (.newarray .int, 2) := by decide +kernel
theorem dX2_init_28 : decode cX2_init 28 = .ok (.putfield 18, 3) := by decide +kernel
theorem dX2_init_31 : decode cX2_init 31 = .ok (.aload_n 0, 1) := by decide +kernel
theorem dX2_init_32 : decode cX2_init 32 = .ok (.sipush 150, 3) := by decide +kernel
theorem dX2_init_35 : decode cX2_init 35 = .ok (.newarray .int, 2) := by decide +kernel
theorem dX2_init_37 : decode cX2_init 37 = .ok (.putfield 21, 3) := by decide +kernel
theorem dX2_init_40 : decode cX2_init 40 = .ok (.aload_n 0, 1) := by decide +kernel
theorem dX2_init_41 : decode cX2_init 41 = .ok (.sipush 150, 3) := by decide +kernel
theorem dX2_init_44 : decode cX2_init 44 = .ok (.newarray .int, 2) := by decide +kernel
theorem dX2_init_46 : decode cX2_init 46 = .ok (.putfield 24, 3) := by decide +kernel
theorem dX2_init_49 : decode cX2_init 49 = .ok (.aload_n 0, 1) := by decide +kernel
theorem dX2_init_50 : decode cX2_init 50 = .ok (.sipush 150, 3) := by decide +kernel
theorem dX2_init_53 : decode cX2_init 53 = .ok (.newarray .int, 2) := by decide +kernel
theorem dX2_init_55 : decode cX2_init 55 = .ok (.putfield 27, 3) := by decide +kernel
theorem dX2_init_58 : decode cX2_init 58 = .ok (.aload_n 0, 1) := by decide +kernel
theorem dX2_init_59 : decode cX2_init 59 = .ok (.sipush 150, 3) := by decide +kernel
theorem dX2_init_62 : decode cX2_init 62 = .ok (.newarray .int, 2) := by decide +kernel
theorem dX2_init_64 : decode cX2_init 64 = .ok (.putfield 30, 3) := by decide +kernel
theorem dX2_init_67 : decode cX2_init 67 = .ok (.aload_n 0, 1) := by decide +kernel
theorem dX2_init_68 : decode cX2_init 68 = .ok (.sipush 150, 3) := by decide +kernel
theorem dX2_init_71 : decode cX2_init 71 = .ok (.newarray .int, 2) := by decide +kernel
theorem dX2_init_73 : decode cX2_init 73 = .ok (.putfield 33, 3) := by decide +kernel
theorem dX2_init_76 : decode cX2_init 76 = .ok (.aload_n 0, 1) := by decide +kernel
theorem dX2_init_77 : decode cX2_init 77 = .ok (.sipush 150, 3) := by decide +kernel
theorem dX2_init_80 : decode cX2_init 80 = .ok (.newarray .int, 2) := by decide +kernel
theorem dX2_init_82 : decode cX2_init 82 = .ok (.putfield 36, 3) := by decide +kernel
theorem dX2_init_85 : decode cX2_init 85 = .ok (.return_, 1) := by decide +kernel
theorem dX2_has_0 : decode cX2_has 0 = .ok (.iload_n 1, 1) := by decide +kernel
theorem dX2_has_1 : decode cX2_has 1 = .ok (.ifCond .lt 15, 3) := by decide +kernel
theorem dX2_has_4 : decode cX2_has 4 = .ok (.iload_n 1, 1) := by decide +kernel
theorem dX2_has_5 : decode cX2_has 5 = .ok (.aload_n 0, 1) := by decide +kernel
theorem dX2_has_6 : decode cX2_has 6 = .ok (.getfield 39, 3) := by decide +kernel
theorem dX2_has_9 : decode cX2_has 9 = .ok (.if_icmp .ge 7, 3) := by decide +kernel
theorem dX2_has_12 : decode cX2_has 12 = .ok (.iconst 1, 1) := by decide +kernel
theorem dX2_has_13 : decode cX2_has 13 = .ok (.goto 4, 3) := by decide +kernel
theorem dX2_has_16 : decode cX2_has 16 = .ok (.iconst 0, 1) := by decide +kernel
theorem dX2_has_17 : decode cX2_has 17 = .ok (.ireturn, 1) := by decide +kernel
theorem dX2_append_0 : decode cX2_append 0 = .ok (.aload_n 0, 1) := by decide +kernel
theorem dX2_append_1 : decode cX2_append 1 = .ok (.getfield 39, 3) := by decide +kernel
theorem dX2_append_4 : decode cX2_append 4 = .ok (.sipush 150, 3) := by decide +kernel
theorem dX2_append_7 : decode cX2_append 7 = .ok (.if_icmp .lt 5, 3) := by decide +kernel
theorem dX2_append_10 : decode cX2_append 10 = .ok (.iconst (-1), 1) := by decide +kernel
theorem dX2_append_11 : decode cX2_append 11 = .ok (.ireturn, 1) := by decide +kernel
theorem dX2_append_12 : decode cX2_append 12 = .ok (.aload_n 0, 1) := by decide +kernel
theorem dX2_append_13 : decode cX2_append 13 = .ok (.getfield 39, 3) := by decide +kernel
theorem dX2_append_16 : decode cX2_append 16 = .ok (.istore 4, 2) := by decide +kernel
theorem dX2_append_18 : decode cX2_append 18 = .ok (.aload_n 0, 1) := by decide +kernel
theorem dX2_append_19 : decode cX2_append 19 = .ok (.getfield 9, 3) := by decide +kernel
theorem dX2_append_22 : decode cX2_append 22 = .ok (.iload 4, 2) := by decide +kernel
theorem dX2_append_24 : decode cX2_append 24 = .ok (.iload_n 1, 1) := by decide +kernel
theorem dX2_append_25 : decode cX2_append 25 = .ok (.iastore, 1) := by decide +kernel
theorem dX2_append_26 : decode cX2_append 26 = .ok (.aload_n 0, 1) := by decide +kernel
theorem dX2_append_27 : decode cX2_append 27 = .ok (.getfield 15, 3) := by decide +kernel
theorem dX2_append_30 : decode cX2_append 30 = .ok (.iload 4, 2) := by decide +kernel
theorem dX2_append_32 : decode cX2_append 32 = .ok (.iload_n 2, 1) := by decide +kernel
theorem dX2_append_33 : decode cX2_append 33 = .ok (.iastore, 1) := by decide +kernel
theorem dX2_append_34 : decode cX2_append 34 = .ok (.aload_n 0, 1) := by decide +kernel
theorem dX2_append_35 : decode cX2_append 35 = .ok (.getfield 18, 3) := by decide +kernel
theorem dX2_append_38 : decode cX2_append 38 = .ok (.iload 4, 2) := by decide +kernel
theorem dX2_append_40 : decode cX2_append 40 = .ok (.iload_n 3, 1) := by decide +kernel
theorem dX2_append_41 : decode cX2_append 41 = .ok (.iastore, 1) := by decide +kernel
theorem dX2_append_42 : decode cX2_append 42 = .ok (.aload_n 0, 1) := by decide +kernel
theorem dX2_append_43 : decode cX2_append 43 = .ok (.getfield 21, 3) := by decide +kernel
theorem dX2_append_46 : decode cX2_append 46 = .ok (.iload 4, 2) := by decide +kernel
theorem dX2_append_48 : decode cX2_append 48 = .ok (.iconst 0, 1) := by decide +kernel
theorem dX2_append_49 : decode cX2_append 49 = .ok (.iastore, 1) := by decide +kernel
theorem dX2_append_50 : decode cX2_append 50 = .ok (.aload_n 0, 1) := by decide +kernel
theorem dX2_append_51 : decode cX2_append 51 = .ok (.getfield 24, 3) := by decide +kernel
theorem dX2_append_54 : decode cX2_append 54 = .ok (.iload 4, 2) := by decide +kernel
theorem dX2_append_56 : decode cX2_append 56 = .ok (.iconst 0, 1) := by decide +kernel
theorem dX2_append_57 : decode cX2_append 57 = .ok (.iastore, 1) := by decide +kernel
theorem dX2_append_58 : decode cX2_append 58 = .ok (.aload_n 0, 1) := by decide +kernel
theorem dX2_append_59 : decode cX2_append 59 = .ok (.getfield 27, 3) := by decide +kernel
theorem dX2_append_62 : decode cX2_append 62 = .ok (.iload 4, 2) := by decide +kernel
theorem dX2_append_64 : decode cX2_append 64 = .ok (.iconst (-1), 1) := by decide +kernel
theorem dX2_append_65 : decode cX2_append 65 = .ok (.iastore, 1) := by decide +kernel
theorem dX2_append_66 : decode cX2_append 66 = .ok (.aload_n 0, 1) := by decide +kernel
theorem dX2_append_67 : decode cX2_append 67 = .ok (.getfield 30, 3) := by decide +kernel
theorem dX2_append_70 : decode cX2_append 70 = .ok (.iload 4, 2) := by decide +kernel
theorem dX2_append_72 : decode cX2_append 72 = .ok (.iconst 0, 1) := by decide +kernel
theorem dX2_append_73 : decode cX2_append 73 = .ok (.iastore, 1) := by decide +kernel
theorem dX2_append_74 : decode cX2_append 74 = .ok (.aload_n 0, 1) := by decide +kernel
theorem dX2_append_75 : decode cX2_append 75 = .ok (.getfield 33, 3) := by decide +kernel
theorem dX2_append_78 : decode cX2_append 78 = .ok (.iload 4, 2) := by decide +kernel
theorem dX2_append_80 : decode cX2_append 80 = .ok (.iconst 0, 1) := by decide +kernel
theorem dX2_append_81 : decode cX2_append 81 = .ok (.iastore, 1) := by decide +kernel
theorem dX2_append_82 : decode cX2_append 82 = .ok (.aload_n 0, 1) := by decide +kernel
theorem dX2_append_83 : decode cX2_append 83 = .ok (.getfield 36, 3) := by decide +kernel
theorem dX2_append_86 : decode cX2_append 86 = .ok (.iload 4, 2) := by decide +kernel
theorem dX2_append_88 : decode cX2_append 88 = .ok (.iconst (-1), 1) := by decide +kernel
theorem dX2_append_89 : decode cX2_append 89 = .ok (.iastore, 1) := by decide +kernel
theorem dX2_append_90 : decode cX2_append 90 = .ok (.aload_n 0, 1) := by decide +kernel
theorem dX2_append_91 : decode cX2_append 91 = .ok (.dup, 1) := by decide +kernel
theorem dX2_append_92 : decode cX2_append 92 = .ok (.getfield 39, 3) := by decide +kernel
theorem dX2_append_95 : decode cX2_append 95 = .ok (.iconst 1, 1) := by decide +kernel
theorem dX2_append_96 : decode cX2_append 96 = .ok (.iadd, 1) := by decide +kernel
theorem dX2_append_97 : decode cX2_append 97 = .ok (.putfield 39, 3) := by decide +kernel
theorem dX2_append_100 : decode cX2_append 100 = .ok (.iload 4, 2) := by decide +kernel
theorem dX2_append_102 : decode cX2_append 102 = .ok (.ireturn, 1) := by decide +kernel
set_option maxRecDepth 20000 in
theorem ggX2_answer_X2_has : GoodIn wsX2_answer wsX2_has := goodIn_r _ [11, 12, 20, 21, 22, 23, 24, 25, 26, 27, 28, 29] (by decide +kernel) (by decide +kernel)
set_option maxRecDepth 20000 in
theorem gX2_answer_X2_has : GoodIn wsX2_answer (wsV RX2 43 RX2 yX2_has wsX2_has) := goodIn_app (goodIn_of _ (by decide +kernel)) ggX2_answer_X2_has
set_option maxRecDepth 20000 in
theorem ggX2_answer_X2_append : GoodIn wsX2_answer wsX2_append := goodIn_r _ [16, 12, 1, 2, 3, 4, 17, 18, 19, 5, 6, 20, 21, 22, 23, 24, 25, 26, 27, 28, 29] (by decide +kernel) (by decide +kernel)
set_option maxRecDepth 20000 in
theorem gX2_answer_X2_append : GoodIn wsX2_answer (wsV RX2 47 RX2 yX2_append wsX2_append) := goodIn_app (goodIn_of _ (by decide +kernel)) ggX2_answer_X2_append
theorem dX2_answer_0 : decode cX2_answer 0 = .ok (.aload_n 0, 1) := by decide +kernel
theorem dX2_answer_1 : decode cX2_answer 1 = .ok (.iload_n 1, 1) := by decide +kernel
theorem dX2_answer_2 : decode cX2_answer 2 = .ok (.invokevirtual 43, 3) := by decide +kernel
theorem dX2_answer_5 : decode cX2_answer 5 = .ok (.ifCond .ne 5, 3) := by decide +kernel
theorem dX2_answer_8 : decode cX2_answer 8 = .ok (.iconst 0, 1) := by decide +kernel
theorem dX2_answer_9 : decode cX2_answer 9 = .ok (.ireturn, 1) := by decide +kernel
theorem dX2_answer_10 : decode cX2_answer 10 = .ok (.aload_n 0, 1) := by decide +kernel
theorem dX2_answer_11 : decode cX2_answer 11 = .ok (.aload_n 0, 1) := by decide +kernel
theorem dX2_answer_12 : decode cX2_answer 12 = .ok (.getfield 9, 3) := by decide +kernel
theorem dX2_answer_15 : decode cX2_answer 15 = .ok (.iload_n 1, 1) := by decide +kernel
theorem dX2_answer_16 : decode cX2_answer 16 = .ok (.iaload, 1) := by decide +kernel
theorem dX2_answer_17 : decode cX2_answer 17 = .ok (.aload_n 0, 1) := by decide +kernel
theorem dX2_answer_18 : decode cX2_answer 18 = .ok (.getfield 15, 3) := by decide +kernel
theorem dX2_answer_21 : decode cX2_answer 21 = .ok (.iload_n 1, 1) := by decide +kernel
theorem dX2_answer_22 : decode cX2_answer 22 = .ok (.iaload, 1) := by decide +kernel
theorem dX2_answer_23 : decode cX2_answer 23 = .ok (.aload_n 0, 1) := by decide +kernel
theorem dX2_answer_24 : decode cX2_answer 24 = .ok (.getfield 18, 3) := by decide +kernel
theorem dX2_answer_27 : decode cX2_answer 27 = .ok (.iload_n 1, 1) := by decide +kernel
theorem dX2_answer_28 : decode cX2_answer 28 = .ok (.iaload, 1) := by decide +kernel
theorem dX2_answer_29 : decode cX2_answer 29 = .ok (.invokevirtual 47, 3) := by decide +kernel
theorem dX2_answer_32 : decode cX2_answer 32 = .ok (.istore_n 3, 1) := by decide +kernel
theorem dX2_answer_33 : decode cX2_answer 33 = .ok (.aload_n 0, 1) := by decide +kernel
theorem dX2_answer_34 : decode cX2_answer 34 = .ok (.iload_n 3, 1) := by decide +kernel
theorem dX2_answer_35 : decode cX2_answer 35 = .ok (.invokevirtual 43, 3) := by decide +kernel
theorem dX2_answer_38 : decode cX2_answer 38 = .ok (.ifCond .ne 5, 3) := by decide +kernel
theorem dX2_answer_41 : decode cX2_answer 41 = .ok (.iconst 0, 1) := by decide +kernel
theorem dX2_answer_42 : decode cX2_answer 42 = .ok (.ireturn, 1) := by decide +kernel
theorem dX2_answer_43 : decode cX2_answer 43 = .ok (.aload_n 0, 1) := by decide +kernel
theorem dX2_answer_44 : decode cX2_answer 44 = .ok (.getfield 21, 3) := by decide +kernel
theorem dX2_answer_47 : decode cX2_answer 47 = .ok (.iload_n 3, 1) := by decide +kernel
theorem dX2_answer_48 : decode cX2_answer 48 = .ok (.iconst 4, 1) := by decide +kernel
theorem dX2_answer_49 : decode cX2_answer 49 = .ok (.iastore, 1) := by decide +kernel
theorem dX2_answer_50 : decode cX2_answer 50 = .ok (.aload_n 0, 1) := by decide +kernel
theorem dX2_answer_51 : decode cX2_answer 51 = .ok (.getfield 33, 3) := by decide +kernel
theorem dX2_answer_54 : decode cX2_answer 54 = .ok (.iload_n 3, 1) := by decide +kernel
theorem dX2_answer_55 : decode cX2_answer 55 = .ok (.iload_n 2, 1) := by decide +kernel
theorem dX2_answer_56 : decode cX2_answer 56 = .ok (.iastore, 1) := by decide +kernel
theorem dX2_answer_57 : decode cX2_answer 57 = .ok (.aload_n 0, 1) := by decide +kernel
theorem dX2_answer_58 : decode cX2_answer 58 = .ok (.getfield 36, 3) := by decide +kernel
theorem dX2_answer_61 : decode cX2_answer 61 = .ok (.iload_n 3, 1) := by decide +kernel
theorem dX2_answer_62 : decode cX2_answer 62 = .ok (.iload_n 1, 1) := by decide +kernel
theorem dX2_answer_63 : decode cX2_answer 63 = .ok (.iastore, 1) := by decide +kernel
theorem dX2_answer_64 : decode cX2_answer 64 = .ok (.iconst 1, 1) := by decide +kernel
theorem dX2_answer_65 : decode cX2_answer 65 = .ok (.ireturn, 1) := by decide +kernel
theorem dX2_inState_0 : decode cX2_inState 0 = .ok (.iconst 0, 1) := by decide +kernel
theorem dX2_inState_1 : decode cX2_inState 1 = .ok (.istore_n 2, 1) := by decide +kernel
theorem dX2_inState_2 : decode cX2_inState 2 = .ok (.iconst 0, 1) := by decide +kernel
theorem dX2_inState_3 : decode cX2_inState 3 = .ok (.istore_n 3, 1) := by decide +kernel
theorem dX2_inState_4 : decode cX2_inState 4 = .ok (.iload_n 3, 1) := by decide +kernel
theorem dX2_inState_5 : decode cX2_inState 5 = .ok (.aload_n 0, 1) := by decide +kernel
theorem dX2_inState_6 : decode cX2_inState 6 = .ok (.getfield 39, 3) := by decide +kernel
theorem dX2_inState_9 : decode cX2_inState 9 = .ok (.if_icmp .ge 22, 3) := by decide +kernel
theorem dX2_inState_12 : decode cX2_inState 12 = .ok (.aload_n 0, 1) := by decide +kernel
theorem dX2_inState_13 : decode cX2_inState 13 = .ok (.getfield 21, 3) := by decide +kernel
theorem dX2_inState_16 : decode cX2_inState 16 = .ok (.iload_n 3, 1) := by decide +kernel
theorem dX2_inState_17 : decode cX2_inState 17 = .ok (.iaload, 1) := by decide +kernel
theorem dX2_inState_18 : decode cX2_inState 18 = .ok (.iload_n 1, 1) := by decide +kernel
theorem dX2_inState_19 : decode cX2_inState 19 = .ok (.if_icmp .ne 6, 3) := by decide +kernel
theorem dX2_inState_22 : decode cX2_inState 22 = .ok (.iinc 2 1, 3) := by decide +kernel
theorem dX2_inState_25 : decode cX2_inState 25 = .ok (.iinc 3 1, 3) := by decide +kernel
theorem dX2_inState_28 : decode cX2_inState 28 = .ok (.goto (-24), 3) := by decide +kernel
theorem dX2_inState_31 : decode cX2_inState 31 = .ok (.iload_n 2, 1) := by decide +kernel
theorem dX2_inState_32 : decode cX2_inState 32 = .ok (.ireturn, 1) := by decide +kernel
theorem dX2_growthIn_0 : decode cX2_growthIn 0 = .ok (.iconst 0, 1) := by decide +kernel
theorem dX2_growthIn_1 : decode cX2_growthIn 1 = .ok (.istore_n 2, 1) := by decide +kernel
theorem dX2_growthIn_2 : decode cX2_growthIn 2 = .ok (.iconst 0, 1) := by decide +kernel
theorem dX2_growthIn_3 : decode cX2_growthIn 3 = .ok (.istore_n 3, 1) := by decide +kernel
theorem dX2_growthIn_4 : decode cX2_growthIn 4 = .ok (.iload_n 3, 1) := by decide +kernel
theorem dX2_growthIn_5 : decode cX2_growthIn 5 = .ok (.aload_n 0, 1) := by decide +kernel
theorem dX2_growthIn_6 : decode cX2_growthIn 6 = .ok (.getfield 39, 3) := by decide +kernel
theorem dX2_growthIn_9 : decode cX2_growthIn 9 = .ok (.if_icmp .ge 38, 3) := by decide +kernel
theorem dX2_growthIn_12 : decode cX2_growthIn 12 = .ok (.aload_n 0, 1) := by decide +kernel
theorem dX2_growthIn_13 : decode cX2_growthIn 13 = .ok (.getfield 21, 3) := by decide +kernel
theorem dX2_growthIn_16 : decode cX2_growthIn 16 = .ok (.iload_n 3, 1) := by decide +kernel
theorem dX2_growthIn_17 : decode cX2_growthIn 17 = .ok (.iaload, 1) := by decide +kernel
theorem dX2_growthIn_18 : decode cX2_growthIn 18 = .ok (.iconst 1, 1) := by decide +kernel
theorem dX2_growthIn_19 : decode cX2_growthIn 19 = .ok (.if_icmp .ne 22, 3) := by decide +kernel
theorem dX2_growthIn_22 : decode cX2_growthIn 22 = .ok (.aload_n 0, 1) := by decide +kernel
theorem dX2_growthIn_23 : decode cX2_growthIn 23 = .ok (.getfield 27, 3) := by decide +kernel
theorem dX2_growthIn_26 : decode cX2_growthIn 26 = .ok (.iload_n 3, 1) := by decide +kernel
theorem dX2_growthIn_27 : decode cX2_growthIn 27 = .ok (.iaload, 1) := by decide +kernel
theorem dX2_growthIn_28 : decode cX2_growthIn 28 = .ok (.iload_n 1, 1) := by decide +kernel
theorem dX2_growthIn_29 : decode cX2_growthIn 29 = .ok (.if_icmp .ne 12, 3) := by decide +kernel
theorem dX2_growthIn_32 : decode cX2_growthIn 32 = .ok (.iload_n 2, 1) := by decide +kernel
theorem dX2_growthIn_33 : decode cX2_growthIn 33 = .ok (.aload_n 0, 1) := by decide +kernel
theorem dX2_growthIn_34 : decode cX2_growthIn 34 = .ok (.getfield 24, 3) := by decide +kernel
theorem dX2_growthIn_37 : decode cX2_growthIn 37 = .ok (.iload_n 3, 1) := by decide +kernel
theorem dX2_growthIn_38 : decode cX2_growthIn 38 = .ok (.iaload, 1) := by decide +kernel
theorem dX2_growthIn_39 : decode cX2_growthIn 39 = .ok (.iadd, 1) := by decide +kernel
theorem dX2_growthIn_40 : decode cX2_growthIn 40 = .ok (.istore_n 2, 1) := by decide +kernel
theorem dX2_growthIn_41 : decode cX2_growthIn 41 = .ok (.iinc 3 1, 3) := by decide +kernel
theorem dX2_growthIn_44 : decode cX2_growthIn 44 = .ok (.goto (-40), 3) := by decide +kernel
theorem dX2_growthIn_47 : decode cX2_growthIn 47 = .ok (.iload_n 2, 1) := by decide +kernel
theorem dX2_growthIn_48 : decode cX2_growthIn 48 = .ok (.ireturn, 1) := by decide +kernel
theorem dX2_heaviestInOffice_0 : decode cX2_heaviestInOffice 0 = .ok (.iconst (-1), 1) := by decide +kernel
theorem dX2_heaviestInOffice_1 : decode cX2_heaviestInOffice 1 = .ok (.istore_n 1, 1) := by decide +kernel
theorem dX2_heaviestInOffice_2 : decode cX2_heaviestInOffice 2 = .ok (.iconst 0, 1) := by decide +kernel
theorem dX2_heaviestInOffice_3 : decode cX2_heaviestInOffice 3 = .ok (.istore_n 2, 1) := by decide +kernel
theorem dX2_heaviestInOffice_4 : decode cX2_heaviestInOffice 4 = .ok (.iload_n 2, 1) := by decide +kernel
theorem dX2_heaviestInOffice_5 : decode cX2_heaviestInOffice 5 = .ok (.aload_n 0, 1) := by decide +kernel
theorem dX2_heaviestInOffice_6 : decode cX2_heaviestInOffice 6 = .ok (.getfield 39, 3) := by decide +kernel
theorem dX2_heaviestInOffice_9 : decode cX2_heaviestInOffice 9 = .ok (.if_icmp .ge 40, 3) := by decide +kernel
theorem dX2_heaviestInOffice_12 : decode cX2_heaviestInOffice 12 = .ok (.aload_n 0, 1) := by decide +kernel
theorem dX2_heaviestInOffice_13 : decode cX2_heaviestInOffice 13 = .ok (.getfield 21, 3) := by decide +kernel
theorem dX2_heaviestInOffice_16 : decode cX2_heaviestInOffice 16 = .ok (.iload_n 2, 1) := by decide +kernel
theorem dX2_heaviestInOffice_17 : decode cX2_heaviestInOffice 17 = .ok (.iaload, 1) := by decide +kernel
theorem dX2_heaviestInOffice_18 : decode cX2_heaviestInOffice 18 = .ok (.ifCond .ne 25, 3) := by decide +kernel
theorem dX2_heaviestInOffice_21 : decode cX2_heaviestInOffice 21 = .ok (.iload_n 1, 1) := by decide +kernel
theorem dX2_heaviestInOffice_22 : decode cX2_heaviestInOffice 22 = .ok (.iconst (-1), 1) := by decide +kernel
theorem dX2_heaviestInOffice_23 : decode cX2_heaviestInOffice 23 = .ok (.if_icmp .eq 18, 3) := by decide +kernel
theorem dX2_heaviestInOffice_26 : decode cX2_heaviestInOffice 26 = .ok (.aload_n 0, 1) := by decide +kernel
theorem dX2_heaviestInOffice_27 : decode cX2_heaviestInOffice 27 = .ok (.getfield 15, 3) := by decide +kernel
theorem dX2_heaviestInOffice_30 : decode cX2_heaviestInOffice 30 = .ok (.iload_n 2, 1) := by decide +kernel
theorem dX2_heaviestInOffice_31 : decode cX2_heaviestInOffice 31 = .ok (.iaload, 1) := by decide +kernel
theorem dX2_heaviestInOffice_32 : decode cX2_heaviestInOffice 32 = .ok (.aload_n 0, 1) := by decide +kernel
theorem dX2_heaviestInOffice_33 : decode cX2_heaviestInOffice 33 = .ok (.getfield 15, 3) := by decide +kernel
theorem dX2_heaviestInOffice_36 : decode cX2_heaviestInOffice 36 = .ok (.iload_n 1, 1) := by decide +kernel
theorem dX2_heaviestInOffice_37 : decode cX2_heaviestInOffice 37 = .ok (.iaload, 1) := by decide +kernel
theorem dX2_heaviestInOffice_38 : decode cX2_heaviestInOffice 38 = .ok (.if_icmp .le 5, 3) := by decide +kernel
theorem dX2_heaviestInOffice_41 : decode cX2_heaviestInOffice 41 = .ok (.iload_n 2, 1) := by decide +kernel
theorem dX2_heaviestInOffice_42 : decode cX2_heaviestInOffice 42 = .ok (.istore_n 1, 1) := by decide +kernel
theorem dX2_heaviestInOffice_43 : decode cX2_heaviestInOffice 43 = .ok (.iinc 2 1, 3) := by decide +kernel
theorem dX2_heaviestInOffice_46 : decode cX2_heaviestInOffice 46 = .ok (.goto (-42), 3) := by decide +kernel
theorem dX2_heaviestInOffice_49 : decode cX2_heaviestInOffice 49 = .ok (.iload_n 1, 1) := by decide +kernel
theorem dX2_heaviestInOffice_50 : decode cX2_heaviestInOffice 50 = .ok (.ireturn, 1) := by decide +kernel
set_option maxRecDepth 20000 in
theorem ggX2_fact_X2_has : GoodIn wsX2_fact wsX2_has := goodIn_r _ [14, 15, 16, 17, 18, 19, 20, 21, 22, 23, 24, 25] (by decide +kernel) (by decide +kernel)
set_option maxRecDepth 20000 in
theorem gX2_fact_X2_has : GoodIn wsX2_fact (wsV RX2 43 RX2 yX2_has wsX2_has) := goodIn_app (goodIn_of _ (by decide +kernel)) ggX2_fact_X2_has
theorem dX2_fact_0 : decode cX2_fact 0 = .ok (.aload_n 0, 1) := by decide +kernel
theorem dX2_fact_1 : decode cX2_fact 1 = .ok (.iload_n 1, 1) := by decide +kernel
theorem dX2_fact_2 : decode cX2_fact 2 = .ok (.invokevirtual 43, 3) := by decide +kernel
theorem dX2_fact_5 : decode cX2_fact 5 = .ok (.ifCond .ne 5, 3) := by decide +kernel
theorem dX2_fact_8 : decode cX2_fact 8 = .ok (.iconst 0, 1) := by decide +kernel
theorem dX2_fact_9 : decode cX2_fact 9 = .ok (.ireturn, 1) := by decide +kernel
theorem dX2_fact_10 : decode cX2_fact 10 = .ok (.iload_n 2, 1) := by decide +kernel
theorem dX2_fact_11 : decode cX2_fact 11 = .ok (.tableswitch 112 0 8 #[49, 56, 63, 70, 77, 84, 91, 98, 105], 49) := by decide +kernel
theorem dX2_fact_60 : decode cX2_fact 60 = .ok (.aload_n 0, 1) := by decide +kernel
theorem dX2_fact_61 : decode cX2_fact 61 = .ok (.getfield 9, 3) := by decide +kernel
theorem dX2_fact_64 : decode cX2_fact 64 = .ok (.iload_n 1, 1) := by decide +kernel
theorem dX2_fact_65 : decode cX2_fact 65 = .ok (.iaload, 1) := by decide +kernel
theorem dX2_fact_66 : decode cX2_fact 66 = .ok (.ireturn, 1) := by decide +kernel
theorem dX2_fact_67 : decode cX2_fact 67 = .ok (.aload_n 0, 1) := by decide +kernel
theorem dX2_fact_68 : decode cX2_fact 68 = .ok (.getfield 15, 3) := by decide +kernel
theorem dX2_fact_71 : decode cX2_fact 71 = .ok (.iload_n 1, 1) := by decide +kernel
theorem dX2_fact_72 : decode cX2_fact 72 = .ok (.iaload, 1) := by decide +kernel
theorem dX2_fact_73 : decode cX2_fact 73 = .ok (.ireturn, 1) := by decide +kernel
theorem dX2_fact_74 : decode cX2_fact 74 = .ok (.aload_n 0, 1) := by decide +kernel
theorem dX2_fact_75 : decode cX2_fact 75 = .ok (.getfield 18, 3) := by decide +kernel
theorem dX2_fact_78 : decode cX2_fact 78 = .ok (.iload_n 1, 1) := by decide +kernel
theorem dX2_fact_79 : decode cX2_fact 79 = .ok (.iaload, 1) := by decide +kernel
theorem dX2_fact_80 : decode cX2_fact 80 = .ok (.ireturn, 1) := by decide +kernel
theorem dX2_fact_81 : decode cX2_fact 81 = .ok (.aload_n 0, 1) := by decide +kernel
theorem dX2_fact_82 : decode cX2_fact 82 = .ok (.getfield 21, 3) := by decide +kernel
theorem dX2_fact_85 : decode cX2_fact 85 = .ok (.iload_n 1, 1) := by decide +kernel
theorem dX2_fact_86 : decode cX2_fact 86 = .ok (.iaload, 1) := by decide +kernel
theorem dX2_fact_87 : decode cX2_fact 87 = .ok (.ireturn, 1) := by decide +kernel
theorem dX2_fact_88 : decode cX2_fact 88 = .ok (.aload_n 0, 1) := by decide +kernel
theorem dX2_fact_89 : decode cX2_fact 89 = .ok (.getfield 24, 3) := by decide +kernel
theorem dX2_fact_92 : decode cX2_fact 92 = .ok (.iload_n 1, 1) := by decide +kernel
theorem dX2_fact_93 : decode cX2_fact 93 = .ok (.iaload, 1) := by decide +kernel
theorem dX2_fact_94 : decode cX2_fact 94 = .ok (.ireturn, 1) := by decide +kernel
theorem dX2_fact_95 : decode cX2_fact 95 = .ok (.aload_n 0, 1) := by decide +kernel
theorem dX2_fact_96 : decode cX2_fact 96 = .ok (.getfield 27, 3) := by decide +kernel
theorem dX2_fact_99 : decode cX2_fact 99 = .ok (.iload_n 1, 1) := by decide +kernel
theorem dX2_fact_100 : decode cX2_fact 100 = .ok (.iaload, 1) := by decide +kernel
theorem dX2_fact_101 : decode cX2_fact 101 = .ok (.ireturn, 1) := by decide +kernel
theorem dX2_fact_102 : decode cX2_fact 102 = .ok (.aload_n 0, 1) := by decide +kernel
theorem dX2_fact_103 : decode cX2_fact 103 = .ok (.getfield 30, 3) := by decide +kernel
theorem dX2_fact_106 : decode cX2_fact 106 = .ok (.iload_n 1, 1) := by decide +kernel
theorem dX2_fact_107 : decode cX2_fact 107 = .ok (.iaload, 1) := by decide +kernel
theorem dX2_fact_108 : decode cX2_fact 108 = .ok (.ireturn, 1) := by decide +kernel
theorem dX2_fact_109 : decode cX2_fact 109 = .ok (.aload_n 0, 1) := by decide +kernel
theorem dX2_fact_110 : decode cX2_fact 110 = .ok (.getfield 33, 3) := by decide +kernel
theorem dX2_fact_113 : decode cX2_fact 113 = .ok (.iload_n 1, 1) := by decide +kernel
theorem dX2_fact_114 : decode cX2_fact 114 = .ok (.iaload, 1) := by decide +kernel
theorem dX2_fact_115 : decode cX2_fact 115 = .ok (.ireturn, 1) := by decide +kernel
theorem dX2_fact_116 : decode cX2_fact 116 = .ok (.aload_n 0, 1) := by decide +kernel
theorem dX2_fact_117 : decode cX2_fact 117 = .ok (.getfield 36, 3) := by decide +kernel
theorem dX2_fact_120 : decode cX2_fact 120 = .ok (.iload_n 1, 1) := by decide +kernel
theorem dX2_fact_121 : decode cX2_fact 121 = .ok (.iaload, 1) := by decide +kernel
theorem dX2_fact_122 : decode cX2_fact 122 = .ok (.ireturn, 1) := by decide +kernel
theorem dX2_fact_123 : decode cX2_fact 123 = .ok (.iconst 0, 1) := by decide +kernel
theorem dX2_fact_124 : decode cX2_fact 124 = .ok (.ireturn, 1) := by decide +kernel
set_option maxRecDepth 20000 in
theorem ggX3_init_X4_init : GoodIn wsX3_init wsX4_init := goodIn_r _ [28, 29, 2, 3, 22, 30, 31, 32, 33, 34, 35, 62, 63] (by decide +kernel) (by decide +kernel)
set_option maxRecDepth 20000 in
theorem gX3_init_X4_init : GoodIn wsX3_init (wsX4_init) := ggX3_init_X4_init
set_option maxRecDepth 20000 in
theorem ggX3_init_X0_init : GoodIn wsX3_init wsX0_init := goodIn_r _ [37, 38, 2, 3, 22, 39, 40, 41, 74, 75, 76, 77] (by decide +kernel) (by decide +kernel)
set_option maxRecDepth 20000 in
theorem gX3_init_X0_init_n20 : GoodIn wsX3_init (wsX0_init) := ggX3_init_X0_init
set_option maxRecDepth 20000 in
theorem ggX3_init_X1_init : GoodIn wsX3_init wsX1_init := goodIn_r _ [43, 44, 2, 3, 22, 45, 46, 47, 48, 49, 78, 79, 80, 81, 82, 83] (by decide +kernel) (by decide +kernel)
set_option maxRecDepth 20000 in
theorem gX3_init_X1_init_n27 : GoodIn wsX3_init (wsX1_init) := ggX3_init_X1_init
set_option maxRecDepth 20000 in
theorem ggX3_init_X2_init : GoodIn wsX3_init wsX2_init := goodIn_r _ [51, 52, 2, 3, 22, 53, 54, 55, 56, 57, 58, 59, 60, 61, 84, 85, 86, 87, 88, 89, 90, 91, 92, 93] (by decide +kernel) (by decide +kernel)
set_option maxRecDepth 20000 in
theorem gX3_init_X2_init_n34 : GoodIn wsX3_init (wsX2_init) := ggX3_init_X2_init
theorem dX3_init_0 : decode cX3_init 0 = .ok (.aload_n 0, 1) := by decide +kernel
theorem dX3_init_1 : decode cX3_init 1 = .ok (.invokespecial 3, 3) := by decide +kernel
theorem dX3_init_4 : decode cX3_init 4 = .ok (.aload_n 0, 1) := by decide +kernel
theorem dX3_init_5 : decode cX3_init 5 = .ok (.new 9, 3) := by decide +kernel
theorem dX3_init_8 : decode cX3_init 8 = .ok (.dup, 1) := by decide +kernel
theorem dX3_init_9 : decode cX3_init 9 = .ok (.invokespecial 11, 3) := by decide +kernel
theorem dX3_init_12 : decode cX3_init 12 = .ok (.putfield 12, 3) := by decide +kernel
theorem dX3_init_15 : decode cX3_init 15 = .ok (.aload_n 0, 1) := by decide +kernel
theorem dX3_init_16 : decode cX3_init 16 = .ok (.new 18, 3) := by decide +kernel
theorem dX3_init_19 : decode cX3_init 19 = .ok (.dup, 1) := by decide +kernel
theorem dX3_init_20 : decode cX3_init 20 = .ok (.invokespecial 20, 3) := by decide +kernel
theorem dX3_init_23 : decode cX3_init 23 = .ok (.putfield 21, 3) := by decide +kernel
theorem dX3_init_26 : decode cX3_init 26 = .ok (.aload_n 0, 1) := by decide +kernel
theorem dX3_init_27 : decode cX3_init 27 = .ok (.new 25, 3) := by decide +kernel
theorem dX3_init_30 : decode cX3_init 30 = .ok (.dup, 1) := by decide +kernel
theorem dX3_init_31 : decode cX3_init 31 = .ok (.invokespecial 27, 3) := by decide +kernel
theorem dX3_init_34 : decode cX3_init 34 = .ok (.putfield 28, 3) := by decide +kernel
theorem dX3_init_37 : decode cX3_init 37 = .ok (.aload_n 0, 1) := by decide +kernel
theorem dX3_init_38 : decode cX3_init 38 = .ok (.new 32, 3) := by decide +kernel
theorem dX3_init_41 : decode cX3_init 41 = .ok (.dup, 1) := by decide +kernel
theorem dX3_init_42 : decode cX3_init 42 = .ok (.invokespecial 34, 3) := by decide +kernel
theorem dX3_init_45 : decode cX3_init 45 = .ok (.putfield 35, 3) := by decide +kernel
theorem dX3_init_48 : decode cX3_init 48 = .ok (.aload_n 0, 1) := by decide +kernel
theorem dX3_init_49 : decode cX3_init 49 = .ok (.iconst 2, 1) := by decide +kernel
theorem dX3_init_50 : decode cX3_init 50 = .ok (.putfield 39, 3) := by decide +kernel
theorem dX3_init_53 : decode cX3_init 53 = .ok (.aload_n 0, 1) := by decide +kernel
theorem dX3_init_54 : decode cX3_init 54 = .ok (.iconst 3, 1) := by decide +kernel
theorem dX3_init_55 : decode cX3_init 55 = .ok (.putfield 43, 3) := by decide +kernel
theorem dX3_init_58 : decode cX3_init 58 = .ok (.aload_n 0, 1) := by decide +kernel
theorem dX3_init_59 : decode cX3_init 59 = .ok (.sipush 150, 3) := by decide +kernel
theorem dX3_init_62 : decode cX3_init 62 = .ok (.newarray .int, 2) := by decide +kernel
theorem dX3_init_64 : decode cX3_init 64 = .ok (.putfield 46, 3) := by decide +kernel
theorem dX3_init_67 : decode cX3_init 67 = .ok (.aload_n 0, 1) := by decide +kernel
theorem dX3_init_68 : decode cX3_init 68 = .ok (.sipush 150, 3) := by decide +kernel
theorem dX3_init_71 : decode cX3_init 71 = .ok (.newarray .boolean, 2) := by decide +kernel
theorem dX3_init_73 : decode cX3_init 73 = .ok (.putfield 50, 3) := by decide +kernel
theorem dX3_init_76 : decode cX3_init 76 = .ok (.return_, 1) := by decide +kernel
set_option maxRecDepth 20000 in
theorem ggX3_tideNow_X4_heightIn : GoodIn wsX3_tideNow wsX4_heightIn := goodIn_r _ [7, 8, 9, 10, 11, 12, 13, 24, 25] (by decide +kernel) (by decide +kernel)
set_option maxRecDepth 20000 in
theorem gX3_tideNow_X4_heightIn : GoodIn wsX3_tideNow (wsV RX3 70 RX4 yX4_heightIn wsX4_heightIn) := goodIn_app (goodIn_of _ (by decide +kernel)) ggX3_tideNow_X4_heightIn
theorem dX3_tideNow_0 : decode cX3_tideNow 0 = .ok (.aload_n 0, 1) := by decide +kernel
theorem dX3_tideNow_1 : decode cX3_tideNow 1 = .ok (.getfield 12, 3) := by decide +kernel
theorem dX3_tideNow_4 : decode cX3_tideNow 4 = .ok (.aload_n 0, 1) := by decide +kernel
theorem dX3_tideNow_5 : decode cX3_tideNow 5 = .ok (.getfield 67, 3) := by decide +kernel
theorem dX3_tideNow_8 : decode cX3_tideNow 8 = .ok (.invokevirtual 70, 3) := by decide +kernel
theorem dX3_tideNow_11 : decode cX3_tideNow 11 = .ok (.ireturn, 1) := by decide +kernel
set_option maxRecDepth 20000 in
theorem ggX3_letGoBy_X3_liveOneHour : GoodIn wsX3_letGoBy wsX3_liveOneHour := goodIn_r _ [6, 7, 8, 9, 10, 11, 12, 5, 13, 14, 15, 16, 17, 18, 19, 20, 21, 22, 23, 24, 25, 26, 27, 28, 29, 1, 30, 31, 32, 33, 34, 35, 36, 37, 38, 39, 40, 41, 42, 43, 44, 45, 46, 47, 48, 49, 50, 51, 52, 53, 54, 55, 56, 57, 58, 59, 60, 61, 62, 63, 64, 65, 66, 67, 68, 69, 70, 71, 72, 73, 74, 75, 76, 77, 78, 79, 80, 81, 82, 83, 84, 85, 86, 87, 88, 89, 90, 91, 92, 93, 94, 95, 96, 97, 98, 99, 100, 101, 102, 103, 104, 105, 106, 107, 108, 109, 110, 111, 112, 113, 114, 115, 116, 117, 118, 119, 120, 121, 122, 123, 124, 125, 126, 127, 128, 129, 130, 131, 132, 133, 134, 135, 136, 137, 138, 139, 140, 141, 142, 143, 144, 145, 146, 147, 148, 149, 150, 151, 152, 153, 154, 155, 156, 157, 158, 159, 160, 161, 162, 163, 164, 165, 166, 167, 168, 169, 170, 171, 172, 173, 174, 175, 176, 177, 178, 179, 180, 181, 182, 183] (by decide +kernel) (by decide +kernel)
set_option maxRecDepth 20000 in
theorem gX3_letGoBy_X3_liveOneHour : GoodIn wsX3_letGoBy (wsV RX3 74 RX3 yX3_liveOneHour wsX3_liveOneHour) := goodIn_app (goodIn_of _ (by decide +kernel)) ggX3_letGoBy_X3_liveOneHour
theorem dX3_letGoBy_0 : decode cX3_letGoBy 0 = .ok (.iconst 0, 1) := by decide +kernel
theorem dX3_letGoBy_1 : decode cX3_letGoBy 1 = .ok (.istore_n 2, 1) := by decide +kernel
theorem dX3_letGoBy_2 : decode cX3_letGoBy 2 = .ok (.iconst 0, 1) := by decide +kernel
theorem dX3_letGoBy_3 : decode cX3_letGoBy 3 = .ok (.istore_n 3, 1) := by decide +kernel
theorem dX3_letGoBy_4 : decode cX3_letGoBy 4 = .ok (.iload_n 3, 1) := by decide +kernel
theorem dX3_letGoBy_5 : decode cX3_letGoBy 5 = .ok (.iload_n 1, 1) := by decide +kernel
theorem dX3_letGoBy_6 : decode cX3_letGoBy 6 = .ok (.if_icmp .ge 20, 3) := by decide +kernel
theorem dX3_letGoBy_9 : decode cX3_letGoBy 9 = .ok (.aload_n 0, 1) := by decide +kernel
theorem dX3_letGoBy_10 : decode cX3_letGoBy 10 = .ok (.invokevirtual 74, 3) := by decide +kernel
theorem dX3_letGoBy_13 : decode cX3_letGoBy 13 = .ok (.iload_n 2, 1) := by decide +kernel
theorem dX3_letGoBy_14 : decode cX3_letGoBy 14 = .ok (.aload_n 0, 1) := by decide +kernel
theorem dX3_letGoBy_15 : decode cX3_letGoBy 15 = .ok (.getfield 77, 3) := by decide +kernel
theorem dX3_letGoBy_18 : decode cX3_letGoBy 18 = .ok (.iadd, 1) := by decide +kernel
theorem dX3_letGoBy_19 : decode cX3_letGoBy 19 = .ok (.istore_n 2, 1) := by decide +kernel
theorem dX3_letGoBy_20 : decode cX3_letGoBy 20 = .ok (.iinc 3 1, 3) := by decide +kernel
theorem dX3_letGoBy_23 : decode cX3_letGoBy 23 = .ok (.goto (-19), 3) := by decide +kernel
theorem dX3_letGoBy_26 : decode cX3_letGoBy 26 = .ok (.iload_n 2, 1) := by decide +kernel
theorem dX3_letGoBy_27 : decode cX3_letGoBy 27 = .ok (.ireturn, 1) := by decide +kernel
set_option maxRecDepth 20000 in
theorem ggX3_liveOneHour_X3_tideNow : GoodIn wsX3_liveOneHour wsX3_tideNow := goodIn_r _ [8, 9, 3, 10, 11, 12, 13, 14, 15, 16, 17, 18, 19, 20, 148, 149, 150, 151, 152, 153, 154, 155, 156, 157, 168, 169] (by decide +kernel) (by decide +kernel)
set_option maxRecDepth 20000 in
theorem gX3_liveOneHour_X3_tideNow : GoodIn wsX3_liveOneHour (wsV RX3 80 RX3 yX3_tideNow wsX3_tideNow) := goodIn_app (goodIn_of _ (by decide +kernel)) ggX3_liveOneHour_X3_tideNow
set_option maxRecDepth 20000 in
theorem ggX3_liveOneHour_X3_water : GoodIn wsX3_liveOneHour wsX3_water := goodIn_r _ [24, 25, 1, 2, 26, 27, 28, 29, 7, 30, 31, 32, 33, 34, 35, 36, 37, 38, 39, 40, 41, 42, 43, 44, 45, 46, 47, 48, 49, 50, 51, 52, 53, 54, 55, 56, 57, 58, 59, 60, 61, 62, 63, 64, 65, 66, 67, 68, 69, 70, 71, 72, 148, 149, 150, 151, 152, 153, 154, 155, 156, 157, 158, 159, 160, 161, 162, 163, 164, 165, 166, 167, 170, 171, 172, 173, 174, 175, 176, 177, 178, 179] (by decide +kernel) (by decide +kernel)
set_option maxRecDepth 20000 in
theorem gX3_liveOneHour_X3_water : GoodIn wsX3_liveOneHour (wsV RX3 87 RX3 yX3_water wsX3_water) := goodIn_app (goodIn_of _ (by decide +kernel)) ggX3_liveOneHour_X3_water
set_option maxRecDepth 20000 in
theorem ggX3_liveOneHour_X3_writeAnswers : GoodIn wsX3_liveOneHour wsX3_writeAnswers := goodIn_r _ [76, 25, 39, 1, 36, 35, 77, 78, 63, 64, 65, 66, 67, 68, 79, 80, 81, 50, 82, 83, 84, 53, 54, 55, 56, 57, 85, 86, 87, 88, 89, 90, 91, 92, 93, 94, 95, 96, 97, 98, 99, 100, 101, 102, 148, 149, 150, 151, 152, 153, 154, 155, 156, 157, 158, 159, 160, 161, 162, 163, 164, 165, 166, 167, 174, 175, 176, 177, 178, 179] (by decide +kernel) (by decide +kernel)
set_option maxRecDepth 20000 in
theorem gX3_liveOneHour_X3_writeAnswers : GoodIn wsX3_liveOneHour (wsV RX3 91 RX3 yX3_writeAnswers wsX3_writeAnswers) := goodIn_app (goodIn_of _ (by decide +kernel)) ggX3_liveOneHour_X3_writeAnswers
set_option maxRecDepth 20000 in
theorem ggX3_liveOneHour_X3_bringAnswersNearer : GoodIn wsX3_liveOneHour wsX3_bringAnswersNearer := goodIn_r _ [106, 1, 26, 107, 148, 149, 150, 151, 152, 153, 154, 155, 156, 157, 158, 159, 160, 161, 162, 163, 164, 165, 166, 167] (by decide +kernel) (by decide +kernel)
set_option maxRecDepth 20000 in
theorem gX3_liveOneHour_X3_bringAnswersNearer : GoodIn wsX3_liveOneHour (wsV RX3 94 RX3 yX3_bringAnswersNearer wsX3_bringAnswersNearer) := goodIn_app (goodIn_of _ (by decide +kernel)) ggX3_liveOneHour_X3_bringAnswersNearer
set_option maxRecDepth 20000 in
theorem ggX3_liveOneHour_X3_scrape : GoodIn wsX3_liveOneHour wsX3_scrape := goodIn_r _ [111, 1, 2, 112, 113, 33, 114, 115, 116, 117, 118, 119, 120, 7, 121, 122, 123, 124, 125, 26, 31, 32, 40, 41, 42, 43, 44, 45, 46, 63, 64, 65, 66, 67, 68, 148, 149, 150, 151, 152, 153, 154, 155, 156, 157, 158, 159, 160, 161, 162, 163, 164, 165, 166, 167, 170, 171, 172, 173] (by decide +kernel) (by decide +kernel)
set_option maxRecDepth 20000 in
theorem gX3_liveOneHour_X3_scrape : GoodIn wsX3_liveOneHour (wsV RX3 98 RX3 yX3_scrape wsX3_scrape) := goodIn_app (goodIn_of _ (by decide +kernel)) ggX3_liveOneHour_X3_scrape
set_option maxRecDepth 20000 in
theorem ggX3_liveOneHour_X3_sort : GoodIn wsX3_liveOneHour wsX3_sort := goodIn_r _ [129, 130, 1, 31, 35, 36, 26, 32, 62, 131, 132, 133, 66, 134, 68, 92, 90, 63, 64, 65, 67, 47, 48, 49, 50, 51, 52, 53, 54, 55, 56, 57, 135, 136, 137, 43, 138, 45, 139, 140, 141, 142, 143, 144, 46, 145, 146, 116, 147, 69, 70, 71, 72, 148, 149, 150, 151, 152, 153, 154, 155, 156, 157, 158, 159, 160, 161, 162, 163, 164, 165, 166, 167, 170, 171, 172, 173, 174, 175, 176, 177, 178, 179] (by decide +kernel) (by decide +kernel)
set_option maxRecDepth 20000 in
theorem gX3_liveOneHour_X3_sort : GoodIn wsX3_liveOneHour (wsV RX3 101 RX3 yX3_sort wsX3_sort) := goodIn_app (goodIn_of _ (by decide +kernel)) ggX3_liveOneHour_X3_sort
theorem dX3_liveOneHour_0 : decode cX3_liveOneHour 0 = .ok (.aload_n 0, 1) := by decide +kernel
theorem dX3_liveOneHour_1 : decode cX3_liveOneHour 1 = .ok (.invokevirtual 80, 3) := by decide +kernel
theorem dX3_liveOneHour_4 : decode cX3_liveOneHour 4 = .ok (.istore_n 1, 1) := by decide +kernel
theorem dX3_liveOneHour_5 : decode cX3_liveOneHour 5 = .ok (.aload_n 0, 1) := by decide +kernel
theorem dX3_liveOneHour_6 : decode cX3_liveOneHour 6 = .ok (.getfield 35, 3) := by decide +kernel
theorem dX3_liveOneHour_9 : decode cX3_liveOneHour 9 = .ok (.getfield 84, 3) := by decide +kernel
theorem dX3_liveOneHour_12 : decode cX3_liveOneHour 12 = .ok (.istore_n 2, 1) := by decide +kernel
theorem dX3_liveOneHour_13 : decode cX3_liveOneHour 13 = .ok (.aload_n 0, 1) := by decide +kernel
theorem dX3_liveOneHour_14 : decode cX3_liveOneHour 14 = .ok (.iload_n 1, 1) := by decide +kernel
theorem dX3_liveOneHour_15 : decode cX3_liveOneHour 15 = .ok (.invokevirtual 87, 3) := by decide +kernel
theorem dX3_liveOneHour_18 : decode cX3_liveOneHour 18 = .ok (.aload_n 0, 1) := by decide +kernel
theorem dX3_liveOneHour_19 : decode cX3_liveOneHour 19 = .ok (.invokevirtual 91, 3) := by decide +kernel
theorem dX3_liveOneHour_22 : decode cX3_liveOneHour 22 = .ok (.aload_n 0, 1) := by decide +kernel
theorem dX3_liveOneHour_23 : decode cX3_liveOneHour 23 = .ok (.iload_n 2, 1) := by decide +kernel
theorem dX3_liveOneHour_24 : decode cX3_liveOneHour 24 = .ok (.iload_n 1, 1) := by decide +kernel
theorem dX3_liveOneHour_25 : decode cX3_liveOneHour 25 = .ok (.invokevirtual 94, 3) := by decide +kernel
theorem dX3_liveOneHour_28 : decode cX3_liveOneHour 28 = .ok (.aload_n 0, 1) := by decide +kernel
theorem dX3_liveOneHour_29 : decode cX3_liveOneHour 29 = .ok (.iload_n 1, 1) := by decide +kernel
theorem dX3_liveOneHour_30 : decode cX3_liveOneHour 30 = .ok (.invokevirtual 98, 3) := by decide +kernel
theorem dX3_liveOneHour_33 : decode cX3_liveOneHour 33 = .ok (.aload_n 0, 1) := by decide +kernel
theorem dX3_liveOneHour_34 : decode cX3_liveOneHour 34 = .ok (.invokevirtual 101, 3) := by decide +kernel
theorem dX3_liveOneHour_37 : decode cX3_liveOneHour 37 = .ok (.aload_n 0, 1) := by decide +kernel
theorem dX3_liveOneHour_38 : decode cX3_liveOneHour 38 = .ok (.dup, 1) := by decide +kernel
theorem dX3_liveOneHour_39 : decode cX3_liveOneHour 39 = .ok (.getfield 67, 3) := by decide +kernel
theorem dX3_liveOneHour_42 : decode cX3_liveOneHour 42 = .ok (.iconst 1, 1) := by decide +kernel
theorem dX3_liveOneHour_43 : decode cX3_liveOneHour 43 = .ok (.iadd, 1) := by decide +kernel
theorem dX3_liveOneHour_44 : decode cX3_liveOneHour 44 = .ok (.putfield 67, 3) := by decide +kernel
theorem dX3_liveOneHour_47 : decode cX3_liveOneHour 47 = .ok (.return_, 1) := by decide +kernel
set_option maxRecDepth 20000 in
theorem ggX3_water_X3_wash : GoodIn wsX3_water wsX3_wash := goodIn_r _ [9, 10, 2, 11, 12, 13, 14, 15, 16, 17, 1, 18, 19, 20, 21, 22, 23, 24, 25, 26, 27, 28, 29, 30, 31, 32, 33, 34, 35, 36, 37, 38, 39, 8, 40, 41, 4, 42, 43, 44, 45, 46, 47, 48, 49, 50, 51, 52, 53, 54, 55, 56, 57, 58, 59, 60, 61, 62, 63, 64, 65, 66, 67, 68, 69, 70, 71, 72, 73, 74, 75, 76, 77, 78, 79, 80, 81] (by decide +kernel) (by decide +kernel)
set_option maxRecDepth 20000 in
theorem gX3_water_X3_wash : GoodIn wsX3_water (wsV RX3 107 RX3 yX3_wash wsX3_wash) := goodIn_app (goodIn_of _ (by decide +kernel)) ggX3_water_X3_wash
theorem dX3_water_0 : decode cX3_water 0 = .ok (.aload_n 0, 1) := by decide +kernel
theorem dX3_water_1 : decode cX3_water 1 = .ok (.iconst 0, 1) := by decide +kernel
theorem dX3_water_2 : decode cX3_water 2 = .ok (.putfield 77, 3) := by decide +kernel
theorem dX3_water_5 : decode cX3_water 5 = .ok (.iconst 0, 1) := by decide +kernel
theorem dX3_water_6 : decode cX3_water 6 = .ok (.istore_n 2, 1) := by decide +kernel
theorem dX3_water_7 : decode cX3_water 7 = .ok (.iload_n 2, 1) := by decide +kernel
theorem dX3_water_8 : decode cX3_water 8 = .ok (.aload_n 0, 1) := by decide +kernel
theorem dX3_water_9 : decode cX3_water 9 = .ok (.getfield 35, 3) := by decide +kernel
theorem dX3_water_12 : decode cX3_water 12 = .ok (.getfield 84, 3) := by decide +kernel
theorem dX3_water_15 : decode cX3_water 15 = .ok (.if_icmp .ge 28, 3) := by decide +kernel
theorem dX3_water_18 : decode cX3_water 18 = .ok (.aload_n 0, 1) := by decide +kernel
theorem dX3_water_19 : decode cX3_water 19 = .ok (.getfield 35, 3) := by decide +kernel
theorem dX3_water_22 : decode cX3_water 22 = .ok (.getfield 104, 3) := by decide +kernel
theorem dX3_water_25 : decode cX3_water 25 = .ok (.iload_n 2, 1) := by decide +kernel
theorem dX3_water_26 : decode cX3_water 26 = .ok (.iaload, 1) := by decide +kernel
theorem dX3_water_27 : decode cX3_water 27 = .ok (.iconst 1, 1) := by decide +kernel
theorem dX3_water_28 : decode cX3_water 28 = .ok (.if_icmp .ne 9, 3) := by decide +kernel
theorem dX3_water_31 : decode cX3_water 31 = .ok (.aload_n 0, 1) := by decide +kernel
theorem dX3_water_32 : decode cX3_water 32 = .ok (.iload_n 2, 1) := by decide +kernel
theorem dX3_water_33 : decode cX3_water 33 = .ok (.iload_n 1, 1) := by decide +kernel
theorem dX3_water_34 : decode cX3_water 34 = .ok (.invokevirtual 107, 3) := by decide +kernel
theorem dX3_water_37 : decode cX3_water 37 = .ok (.iinc 2 1, 3) := by decide +kernel
theorem dX3_water_40 : decode cX3_water 40 = .ok (.goto (-33), 3) := by decide +kernel
theorem dX3_water_43 : decode cX3_water 43 = .ok (.return_, 1) := by decide +kernel
set_option maxRecDepth 20000 in
theorem ggX3_wash_X0_isUnder : GoodIn wsX3_wash wsX0_isUnder := goodIn_r _ [16, 17, 18, 67, 68, 69, 70] (by decide +kernel) (by decide +kernel)
set_option maxRecDepth 20000 in
theorem gX3_wash_X0_isUnder : GoodIn wsX3_wash (wsV RX3 113 RX0 yX0_isUnder wsX0_isUnder) := goodIn_app (goodIn_of _ (by decide +kernel)) ggX3_wash_X0_isUnder
set_option maxRecDepth 20000 in
theorem ggX3_wash_X1_heightOf : GoodIn wsX3_wash wsX1_heightOf := goodIn_r _ [23, 24, 25, 26, 27, 22, 28, 29, 71, 72, 73, 74, 75, 76] (by decide +kernel) (by decide +kernel)
set_option maxRecDepth 20000 in
theorem gX3_wash_X1_heightOf : GoodIn wsX3_wash (wsV RX3 126 RX1 yX1_heightOf wsX1_heightOf) := goodIn_app (goodIn_of _ (by decide +kernel)) ggX3_wash_X1_heightOf
set_option maxRecDepth 20000 in
theorem ggX3_wash_X3_leaveBin : GoodIn wsX3_wash wsX3_leaveBin := goodIn_r _ [34, 2, 3, 1, 35, 8, 36, 37, 38, 39, 40, 41, 42, 43, 44, 45, 15, 46, 17, 47, 48, 49, 50, 51, 52, 53, 54, 55, 56, 57, 58, 59, 60, 61, 62, 63, 64, 65, 66, 67, 68, 69, 70] (by decide +kernel) (by decide +kernel)
set_option maxRecDepth 20000 in
theorem gX3_wash_X3_leaveBin : GoodIn wsX3_wash (wsV RX3 135 RX3 yX3_leaveBin wsX3_leaveBin) := goodIn_app (goodIn_of _ (by decide +kernel)) ggX3_wash_X3_leaveBin
theorem dX3_wash_0 : decode cX3_wash 0 = .ok (.aload_n 0, 1) := by decide +kernel
theorem dX3_wash_1 : decode cX3_wash 1 = .ok (.getfield 21, 3) := by decide +kernel
theorem dX3_wash_4 : decode cX3_wash 4 = .ok (.aload_n 0, 1) := by decide +kernel
theorem dX3_wash_5 : decode cX3_wash 5 = .ok (.getfield 35, 3) := by decide +kernel
theorem dX3_wash_8 : decode cX3_wash 8 = .ok (.getfield 110, 3) := by decide +kernel
theorem dX3_wash_11 : decode cX3_wash 11 = .ok (.iload_n 1, 1) := by decide +kernel
theorem dX3_wash_12 : decode cX3_wash 12 = .ok (.iaload, 1) := by decide +kernel
theorem dX3_wash_13 : decode cX3_wash 13 = .ok (.iload_n 2, 1) := by decide +kernel
theorem dX3_wash_14 : decode cX3_wash 14 = .ok (.invokevirtual 113, 3) := by decide +kernel
theorem dX3_wash_17 : decode cX3_wash 17 = .ok (.istore_n 3, 1) := by decide +kernel
theorem dX3_wash_18 : decode cX3_wash 18 = .ok (.iload_n 3, 1) := by decide +kernel
theorem dX3_wash_19 : decode cX3_wash 19 = .ok (.ifCond .eq 28, 3) := by decide +kernel
theorem dX3_wash_22 : decode cX3_wash 22 = .ok (.aload_n 0, 1) := by decide +kernel
theorem dX3_wash_23 : decode cX3_wash 23 = .ok (.getfield 35, 3) := by decide +kernel
theorem dX3_wash_26 : decode cX3_wash 26 = .ok (.getfield 117, 3) := by decide +kernel
theorem dX3_wash_29 : decode cX3_wash 29 = .ok (.iload_n 1, 1) := by decide +kernel
theorem dX3_wash_30 : decode cX3_wash 30 = .ok (.dup2, 1) := by decide +kernel
theorem dX3_wash_31 : decode cX3_wash 31 = .ok (.iaload, 1) := by decide +kernel
theorem dX3_wash_32 : decode cX3_wash 32 = .ok (.iconst 1, 1) := by decide +kernel
theorem dX3_wash_33 : decode cX3_wash 33 = .ok (.aload_n 0, 1) := by decide +kernel
theorem dX3_wash_34 : decode cX3_wash 34 = .ok (.getfield 35, 3) := by decide +kernel
theorem dX3_wash_37 : decode cX3_wash 37 = .ok (.getfield 120, 3) := by decide +kernel
theorem dX3_wash_40 : decode cX3_wash 40 = .ok (.iload_n 1, 1) := by decide +kernel
theorem dX3_wash_41 : decode cX3_wash 41 = .ok (.iaload, 1) := by decide +kernel
theorem dX3_wash_42 : decode cX3_wash 42 = .ok (.iconst 3, 1) := by decide +kernel
theorem dX3_wash_43 : decode cX3_wash 43 = .ok (.idiv, 1) := by decide +kernel
theorem dX3_wash_44 : decode cX3_wash 44 = .ok (.iadd, 1) := by decide +kernel
theorem dX3_wash_45 : decode cX3_wash 45 = .ok (.iadd, 1) := by decide +kernel
theorem dX3_wash_46 : decode cX3_wash 46 = .ok (.iastore, 1) := by decide +kernel
theorem dX3_wash_47 : decode cX3_wash 47 = .ok (.iload_n 3, 1) := by decide +kernel
theorem dX3_wash_48 : decode cX3_wash 48 = .ok (.ifCond .eq 27, 3) := by decide +kernel
theorem dX3_wash_51 : decode cX3_wash 51 = .ok (.iload_n 2, 1) := by decide +kernel
theorem dX3_wash_52 : decode cX3_wash 52 = .ok (.aload_n 0, 1) := by decide +kernel
theorem dX3_wash_53 : decode cX3_wash 53 = .ok (.getfield 28, 3) := by decide +kernel
theorem dX3_wash_56 : decode cX3_wash 56 = .ok (.aload_n 0, 1) := by decide +kernel
theorem dX3_wash_57 : decode cX3_wash 57 = .ok (.getfield 35, 3) := by decide +kernel
theorem dX3_wash_60 : decode cX3_wash 60 = .ok (.getfield 123, 3) := by decide +kernel
theorem dX3_wash_63 : decode cX3_wash 63 = .ok (.iload_n 1, 1) := by decide +kernel
theorem dX3_wash_64 : decode cX3_wash 64 = .ok (.iaload, 1) := by decide +kernel
theorem dX3_wash_65 : decode cX3_wash 65 = .ok (.invokevirtual 126, 3) := by decide +kernel
theorem dX3_wash_68 : decode cX3_wash 68 = .ok (.if_icmp .lt 7, 3) := by decide +kernel
theorem dX3_wash_71 : decode cX3_wash 71 = .ok (.iconst 1, 1) := by decide +kernel
theorem dX3_wash_72 : decode cX3_wash 72 = .ok (.goto 4, 3) := by decide +kernel
theorem dX3_wash_75 : decode cX3_wash 75 = .ok (.iconst 0, 1) := by decide +kernel
theorem dX3_wash_76 : decode cX3_wash 76 = .ok (.istore 4, 2) := by decide +kernel
theorem dX3_wash_78 : decode cX3_wash 78 = .ok (.aload_n 0, 1) := by decide +kernel
theorem dX3_wash_79 : decode cX3_wash 79 = .ok (.getfield 35, 3) := by decide +kernel
theorem dX3_wash_82 : decode cX3_wash 82 = .ok (.getfield 129, 3) := by decide +kernel
theorem dX3_wash_85 : decode cX3_wash 85 = .ok (.iload_n 1, 1) := by decide +kernel
theorem dX3_wash_86 : decode cX3_wash 86 = .ok (.iload 4, 2) := by decide +kernel
theorem dX3_wash_88 : decode cX3_wash 88 = .ok (.ifCond .eq 17, 3) := by decide +kernel
theorem dX3_wash_91 : decode cX3_wash 91 = .ok (.aload_n 0, 1) := by decide +kernel
theorem dX3_wash_92 : decode cX3_wash 92 = .ok (.getfield 35, 3) := by decide +kernel
theorem dX3_wash_95 : decode cX3_wash 95 = .ok (.getfield 129, 3) := by decide +kernel
theorem dX3_wash_98 : decode cX3_wash 98 = .ok (.iload_n 1, 1) := by decide +kernel
theorem dX3_wash_99 : decode cX3_wash 99 = .ok (.iaload, 1) := by decide +kernel
theorem dX3_wash_100 : decode cX3_wash 100 = .ok (.iconst 1, 1) := by decide +kernel
theorem dX3_wash_101 : decode cX3_wash 101 = .ok (.iadd, 1) := by decide +kernel
theorem dX3_wash_102 : decode cX3_wash 102 = .ok (.goto 4, 3) := by decide +kernel
theorem dX3_wash_105 : decode cX3_wash 105 = .ok (.iconst 0, 1) := by decide +kernel
theorem dX3_wash_106 : decode cX3_wash 106 = .ok (.iastore, 1) := by decide +kernel
theorem dX3_wash_107 : decode cX3_wash 107 = .ok (.iload_n 3, 1) := by decide +kernel
theorem dX3_wash_108 : decode cX3_wash 108 = .ok (.ifCond .eq 33, 3) := by decide +kernel
theorem dX3_wash_111 : decode cX3_wash 111 = .ok (.aload_n 0, 1) := by decide +kernel
theorem dX3_wash_112 : decode cX3_wash 112 = .ok (.getfield 35, 3) := by decide +kernel
theorem dX3_wash_115 : decode cX3_wash 115 = .ok (.getfield 117, 3) := by decide +kernel
theorem dX3_wash_118 : decode cX3_wash 118 = .ok (.iload_n 1, 1) := by decide +kernel
theorem dX3_wash_119 : decode cX3_wash 119 = .ok (.iaload, 1) := by decide +kernel
theorem dX3_wash_120 : decode cX3_wash 120 = .ok (.aload_n 0, 1) := by decide +kernel
theorem dX3_wash_121 : decode cX3_wash 121 = .ok (.getfield 35, 3) := by decide +kernel
theorem dX3_wash_124 : decode cX3_wash 124 = .ok (.getfield 132, 3) := by decide +kernel
theorem dX3_wash_127 : decode cX3_wash 127 = .ok (.iload_n 1, 1) := by decide +kernel
theorem dX3_wash_128 : decode cX3_wash 128 = .ok (.iaload, 1) := by decide +kernel
theorem dX3_wash_129 : decode cX3_wash 129 = .ok (.if_icmp .lt 12, 3) := by decide +kernel
theorem dX3_wash_132 : decode cX3_wash 132 = .ok (.aload_n 0, 1) := by decide +kernel
theorem dX3_wash_133 : decode cX3_wash 133 = .ok (.iload_n 1, 1) := by decide +kernel
theorem dX3_wash_134 : decode cX3_wash 134 = .ok (.iconst 3, 1) := by decide +kernel
theorem dX3_wash_135 : decode cX3_wash 135 = .ok (.invokevirtual 135, 3) := by decide +kernel
theorem dX3_wash_138 : decode cX3_wash 138 = .ok (.goto 52, 3) := by decide +kernel
theorem dX3_wash_141 : decode cX3_wash 141 = .ok (.aload_n 0, 1) := by decide +kernel
theorem dX3_wash_142 : decode cX3_wash 142 = .ok (.getfield 35, 3) := by decide +kernel
theorem dX3_wash_145 : decode cX3_wash 145 = .ok (.getfield 129, 3) := by decide +kernel
theorem dX3_wash_148 : decode cX3_wash 148 = .ok (.iload_n 1, 1) := by decide +kernel
theorem dX3_wash_149 : decode cX3_wash 149 = .ok (.iaload, 1) := by decide +kernel
theorem dX3_wash_150 : decode cX3_wash 150 = .ok (.iconst 3, 1) := by decide +kernel
theorem dX3_wash_151 : decode cX3_wash 151 = .ok (.if_icmp .lt 39, 3) := by decide +kernel
theorem dX3_wash_154 : decode cX3_wash 154 = .ok (.aload_n 0, 1) := by decide +kernel
theorem dX3_wash_155 : decode cX3_wash 155 = .ok (.getfield 77, 3) := by decide +kernel
theorem dX3_wash_158 : decode cX3_wash 158 = .ok (.sipush 150, 3) := by decide +kernel
theorem dX3_wash_161 : decode cX3_wash 161 = .ok (.if_icmp .ge 29, 3) := by decide +kernel
theorem dX3_wash_164 : decode cX3_wash 164 = .ok (.aload_n 0, 1) := by decide +kernel
theorem dX3_wash_165 : decode cX3_wash 165 = .ok (.iload_n 1, 1) := by decide +kernel
theorem dX3_wash_166 : decode cX3_wash 166 = .ok (.iconst 2, 1) := by decide +kernel
theorem dX3_wash_167 : decode cX3_wash 167 = .ok (.invokevirtual 135, 3) := by decide +kernel
theorem dX3_wash_170 : decode cX3_wash 170 = .ok (.aload_n 0, 1) := by decide +kernel
theorem dX3_wash_171 : decode cX3_wash 171 = .ok (.getfield 46, 3) := by decide +kernel
theorem dX3_wash_174 : decode cX3_wash 174 = .ok (.aload_n 0, 1) := by decide +kernel
theorem dX3_wash_175 : decode cX3_wash 175 = .ok (.getfield 77, 3) := by decide +kernel
theorem dX3_wash_178 : decode cX3_wash 178 = .ok (.iload_n 1, 1) := by decide +kernel
theorem dX3_wash_179 : decode cX3_wash 179 = .ok (.iastore, 1) := by decide +kernel
theorem dX3_wash_180 : decode cX3_wash 180 = .ok (.aload_n 0, 1) := by decide +kernel
theorem dX3_wash_181 : decode cX3_wash 181 = .ok (.dup, 1) := by decide +kernel
theorem dX3_wash_182 : decode cX3_wash 182 = .ok (.getfield 77, 3) := by decide +kernel
theorem dX3_wash_185 : decode cX3_wash 185 = .ok (.iconst 1, 1) := by decide +kernel
theorem dX3_wash_186 : decode cX3_wash 186 = .ok (.iadd, 1) := by decide +kernel
theorem dX3_wash_187 : decode cX3_wash 187 = .ok (.putfield 77, 3) := by decide +kernel
theorem dX3_wash_190 : decode cX3_wash 190 = .ok (.return_, 1) := by decide +kernel
set_option maxRecDepth 20000 in
theorem ggX3_leaveBin_X2_has : GoodIn wsX3_leaveBin wsX2_has := goodIn_r _ [11, 12, 29, 30, 31, 32, 33, 34, 35, 36, 37, 38] (by decide +kernel) (by decide +kernel)
set_option maxRecDepth 20000 in
theorem gX3_leaveBin_X2_has : GoodIn wsX3_leaveBin (wsV RX3 138 RX2 yX2_has wsX2_has) := goodIn_app (goodIn_of _ (by decide +kernel)) ggX3_leaveBin_X2_has
set_option maxRecDepth 20000 in
theorem ggX3_leaveBin_X0_has : GoodIn wsX3_leaveBin wsX0_has := goodIn_r _ [17, 18, 39, 40, 41, 42] (by decide +kernel) (by decide +kernel)
set_option maxRecDepth 20000 in
theorem gX3_leaveBin_X0_has : GoodIn wsX3_leaveBin (wsV RX3 142 RX0 yX0_has wsX0_has) := goodIn_app (goodIn_of _ (by decide +kernel)) ggX3_leaveBin_X0_has
theorem dX3_leaveBin_0 : decode cX3_leaveBin 0 = .ok (.aload_n 0, 1) := by decide +kernel
theorem dX3_leaveBin_1 : decode cX3_leaveBin 1 = .ok (.getfield 35, 3) := by decide +kernel
theorem dX3_leaveBin_4 : decode cX3_leaveBin 4 = .ok (.iload_n 1, 1) := by decide +kernel
theorem dX3_leaveBin_5 : decode cX3_leaveBin 5 = .ok (.invokevirtual 138, 3) := by decide +kernel
theorem dX3_leaveBin_8 : decode cX3_leaveBin 8 = .ok (.ifCond .ne 4, 3) := by decide +kernel
theorem dX3_leaveBin_11 : decode cX3_leaveBin 11 = .ok (.return_, 1) := by decide +kernel
theorem dX3_leaveBin_12 : decode cX3_leaveBin 12 = .ok (.aload_n 0, 1) := by decide +kernel
theorem dX3_leaveBin_13 : decode cX3_leaveBin 13 = .ok (.getfield 35, 3) := by decide +kernel
theorem dX3_leaveBin_16 : decode cX3_leaveBin 16 = .ok (.getfield 110, 3) := by decide +kernel
theorem dX3_leaveBin_19 : decode cX3_leaveBin 19 = .ok (.iload_n 1, 1) := by decide +kernel
theorem dX3_leaveBin_20 : decode cX3_leaveBin 20 = .ok (.iaload, 1) := by decide +kernel
theorem dX3_leaveBin_21 : decode cX3_leaveBin 21 = .ok (.istore_n 3, 1) := by decide +kernel
theorem dX3_leaveBin_22 : decode cX3_leaveBin 22 = .ok (.aload_n 0, 1) := by decide +kernel
theorem dX3_leaveBin_23 : decode cX3_leaveBin 23 = .ok (.getfield 21, 3) := by decide +kernel
theorem dX3_leaveBin_26 : decode cX3_leaveBin 26 = .ok (.iload_n 3, 1) := by decide +kernel
theorem dX3_leaveBin_27 : decode cX3_leaveBin 27 = .ok (.invokevirtual 142, 3) := by decide +kernel
theorem dX3_leaveBin_30 : decode cX3_leaveBin 30 = .ok (.ifCond .eq 16, 3) := by decide +kernel
theorem dX3_leaveBin_33 : decode cX3_leaveBin 33 = .ok (.aload_n 0, 1) := by decide +kernel
theorem dX3_leaveBin_34 : decode cX3_leaveBin 34 = .ok (.getfield 21, 3) := by decide +kernel
theorem dX3_leaveBin_37 : decode cX3_leaveBin 37 = .ok (.getfield 143, 3) := by decide +kernel
theorem dX3_leaveBin_40 : decode cX3_leaveBin 40 = .ok (.iload_n 3, 1) := by decide +kernel
theorem dX3_leaveBin_41 : decode cX3_leaveBin 41 = .ok (.dup2, 1) := by decide +kernel
theorem dX3_leaveBin_42 : decode cX3_leaveBin 42 = .ok (.iaload, 1) := by decide +kernel
theorem dX3_leaveBin_43 : decode cX3_leaveBin 43 = .ok (.iconst 1, 1) := by decide +kernel
theorem dX3_leaveBin_44 : decode cX3_leaveBin 44 = .ok (.isub, 1) := by decide +kernel
theorem dX3_leaveBin_45 : decode cX3_leaveBin 45 = .ok (.iastore, 1) := by decide +kernel
theorem dX3_leaveBin_46 : decode cX3_leaveBin 46 = .ok (.aload_n 0, 1) := by decide +kernel
theorem dX3_leaveBin_47 : decode cX3_leaveBin 47 = .ok (.getfield 35, 3) := by decide +kernel
theorem dX3_leaveBin_50 : decode cX3_leaveBin 50 = .ok (.getfield 110, 3) := by decide +kernel
theorem dX3_leaveBin_53 : decode cX3_leaveBin 53 = .ok (.iload_n 1, 1) := by decide +kernel
theorem dX3_leaveBin_54 : decode cX3_leaveBin 54 = .ok (.iconst (-1), 1) := by decide +kernel
theorem dX3_leaveBin_55 : decode cX3_leaveBin 55 = .ok (.iastore, 1) := by decide +kernel
theorem dX3_leaveBin_56 : decode cX3_leaveBin 56 = .ok (.aload_n 0, 1) := by decide +kernel
theorem dX3_leaveBin_57 : decode cX3_leaveBin 57 = .ok (.getfield 35, 3) := by decide +kernel
theorem dX3_leaveBin_60 : decode cX3_leaveBin 60 = .ok (.getfield 129, 3) := by decide +kernel
theorem dX3_leaveBin_63 : decode cX3_leaveBin 63 = .ok (.iload_n 1, 1) := by decide +kernel
theorem dX3_leaveBin_64 : decode cX3_leaveBin 64 = .ok (.iconst 0, 1) := by decide +kernel
theorem dX3_leaveBin_65 : decode cX3_leaveBin 65 = .ok (.iastore, 1) := by decide +kernel
theorem dX3_leaveBin_66 : decode cX3_leaveBin 66 = .ok (.aload_n 0, 1) := by decide +kernel
theorem dX3_leaveBin_67 : decode cX3_leaveBin 67 = .ok (.getfield 35, 3) := by decide +kernel
theorem dX3_leaveBin_70 : decode cX3_leaveBin 70 = .ok (.getfield 104, 3) := by decide +kernel
theorem dX3_leaveBin_73 : decode cX3_leaveBin 73 = .ok (.iload_n 1, 1) := by decide +kernel
theorem dX3_leaveBin_74 : decode cX3_leaveBin 74 = .ok (.iload_n 2, 1) := by decide +kernel
theorem dX3_leaveBin_75 : decode cX3_leaveBin 75 = .ok (.iastore, 1) := by decide +kernel
theorem dX3_leaveBin_76 : decode cX3_leaveBin 76 = .ok (.return_, 1) := by decide +kernel
set_option maxRecDepth 20000 in
theorem ggX3_writeAnswers_X2_has : GoodIn wsX3_writeAnswers wsX2_has := goodIn_r _ [12, 13, 54, 55, 56, 57, 58, 59, 60, 61, 62, 63] (by decide +kernel) (by decide +kernel)
set_option maxRecDepth 20000 in
theorem gX3_writeAnswers_X2_has : GoodIn wsX3_writeAnswers (wsV RX3 138 RX2 yX2_has wsX2_has) := goodIn_app (goodIn_of _ (by decide +kernel)) ggX3_writeAnswers_X2_has
set_option maxRecDepth 20000 in
theorem ggX3_writeAnswers_X1_gets : GoodIn wsX3_writeAnswers wsX1_gets := goodIn_r _ [18, 19, 20, 21, 22, 23, 17, 24, 25, 64, 65, 66, 67, 68, 69] (by decide +kernel) (by decide +kernel)
set_option maxRecDepth 20000 in
theorem gX3_writeAnswers_X1_gets : GoodIn wsX3_writeAnswers (wsV RX3 146 RX1 yX1_gets wsX1_gets) := goodIn_app (goodIn_of _ (by decide +kernel)) ggX3_writeAnswers_X1_gets
set_option maxRecDepth 20000 in
theorem ggX3_writeAnswers_X2_answer : GoodIn wsX3_writeAnswers wsX2_answer := goodIn_r _ [29, 30, 31, 32, 33, 34, 35, 36, 9, 10, 11, 12, 13, 37, 38, 39, 40, 41, 42, 43, 54, 55, 56, 57, 58, 59, 60, 61, 62, 63] (by decide +kernel) (by decide +kernel)
set_option maxRecDepth 20000 in
theorem gX3_writeAnswers_X2_answer : GoodIn wsX3_writeAnswers (wsV RX3 152 RX2 yX2_answer wsX2_answer) := goodIn_app (goodIn_of _ (by decide +kernel)) ggX3_writeAnswers_X2_answer
theorem dX3_writeAnswers_0 : decode cX3_writeAnswers 0 = .ok (.iconst 0, 1) := by decide +kernel
theorem dX3_writeAnswers_1 : decode cX3_writeAnswers 1 = .ok (.istore_n 1, 1) := by decide +kernel
theorem dX3_writeAnswers_2 : decode cX3_writeAnswers 2 = .ok (.iload_n 1, 1) := by decide +kernel
theorem dX3_writeAnswers_3 : decode cX3_writeAnswers 3 = .ok (.aload_n 0, 1) := by decide +kernel
theorem dX3_writeAnswers_4 : decode cX3_writeAnswers 4 = .ok (.getfield 77, 3) := by decide +kernel
theorem dX3_writeAnswers_7 : decode cX3_writeAnswers 7 = .ok (.if_icmp .ge 85, 3) := by decide +kernel
theorem dX3_writeAnswers_10 : decode cX3_writeAnswers 10 = .ok (.aload_n 0, 1) := by decide +kernel
theorem dX3_writeAnswers_11 : decode cX3_writeAnswers 11 = .ok (.getfield 46, 3) := by decide +kernel
theorem dX3_writeAnswers_14 : decode cX3_writeAnswers 14 = .ok (.iload_n 1, 1) := by decide +kernel
theorem dX3_writeAnswers_15 : decode cX3_writeAnswers 15 = .ok (.iaload, 1) := by decide +kernel
theorem dX3_writeAnswers_16 : decode cX3_writeAnswers 16 = .ok (.istore_n 2, 1) := by decide +kernel
theorem dX3_writeAnswers_17 : decode cX3_writeAnswers 17 = .ok (.aload_n 0, 1) := by decide +kernel
theorem dX3_writeAnswers_18 : decode cX3_writeAnswers 18 = .ok (.getfield 35, 3) := by decide +kernel
theorem dX3_writeAnswers_21 : decode cX3_writeAnswers 21 = .ok (.iload_n 2, 1) := by decide +kernel
theorem dX3_writeAnswers_22 : decode cX3_writeAnswers 22 = .ok (.invokevirtual 138, 3) := by decide +kernel
theorem dX3_writeAnswers_25 : decode cX3_writeAnswers 25 = .ok (.ifCond .eq 15, 3) := by decide +kernel
theorem dX3_writeAnswers_28 : decode cX3_writeAnswers 28 = .ok (.aload_n 0, 1) := by decide +kernel
theorem dX3_writeAnswers_29 : decode cX3_writeAnswers 29 = .ok (.getfield 35, 3) := by decide +kernel
theorem dX3_writeAnswers_32 : decode cX3_writeAnswers 32 = .ok (.getfield 123, 3) := by decide +kernel
theorem dX3_writeAnswers_35 : decode cX3_writeAnswers 35 = .ok (.iload_n 2, 1) := by decide +kernel
theorem dX3_writeAnswers_36 : decode cX3_writeAnswers 36 = .ok (.iaload, 1) := by decide +kernel
theorem dX3_writeAnswers_37 : decode cX3_writeAnswers 37 = .ok (.goto 4, 3) := by decide +kernel
theorem dX3_writeAnswers_40 : decode cX3_writeAnswers 40 = .ok (.iconst (-1), 1) := by decide +kernel
theorem dX3_writeAnswers_41 : decode cX3_writeAnswers 41 = .ok (.istore_n 3, 1) := by decide +kernel
theorem dX3_writeAnswers_42 : decode cX3_writeAnswers 42 = .ok (.aload_n 0, 1) := by decide +kernel
theorem dX3_writeAnswers_43 : decode cX3_writeAnswers 43 = .ok (.getfield 28, 3) := by decide +kernel
theorem dX3_writeAnswers_46 : decode cX3_writeAnswers 46 = .ok (.iload_n 3, 1) := by decide +kernel
theorem dX3_writeAnswers_47 : decode cX3_writeAnswers 47 = .ok (.invokevirtual 146, 3) := by decide +kernel
theorem dX3_writeAnswers_50 : decode cX3_writeAnswers 50 = .ok (.ifCond .eq 36, 3) := by decide +kernel
theorem dX3_writeAnswers_53 : decode cX3_writeAnswers 53 = .ok (.aload_n 0, 1) := by decide +kernel
theorem dX3_writeAnswers_54 : decode cX3_writeAnswers 54 = .ok (.getfield 35, 3) := by decide +kernel
theorem dX3_writeAnswers_57 : decode cX3_writeAnswers 57 = .ok (.iload_n 2, 1) := by decide +kernel
theorem dX3_writeAnswers_58 : decode cX3_writeAnswers 58 = .ok (.aload_n 0, 1) := by decide +kernel
theorem dX3_writeAnswers_59 : decode cX3_writeAnswers 59 = .ok (.getfield 28, 3) := by decide +kernel
theorem dX3_writeAnswers_62 : decode cX3_writeAnswers 62 = .ok (.getfield 149, 3) := by decide +kernel
theorem dX3_writeAnswers_65 : decode cX3_writeAnswers 65 = .ok (.iload_n 3, 1) := by decide +kernel
theorem dX3_writeAnswers_66 : decode cX3_writeAnswers 66 = .ok (.iaload, 1) := by decide +kernel
theorem dX3_writeAnswers_67 : decode cX3_writeAnswers 67 = .ok (.invokevirtual 152, 3) := by decide +kernel
theorem dX3_writeAnswers_70 : decode cX3_writeAnswers 70 = .ok (.ifCond .eq 16, 3) := by decide +kernel
theorem dX3_writeAnswers_73 : decode cX3_writeAnswers 73 = .ok (.aload_n 0, 1) := by decide +kernel
theorem dX3_writeAnswers_74 : decode cX3_writeAnswers 74 = .ok (.getfield 28, 3) := by decide +kernel
theorem dX3_writeAnswers_77 : decode cX3_writeAnswers 77 = .ok (.getfield 155, 3) := by decide +kernel
theorem dX3_writeAnswers_80 : decode cX3_writeAnswers 80 = .ok (.iload_n 3, 1) := by decide +kernel
theorem dX3_writeAnswers_81 : decode cX3_writeAnswers 81 = .ok (.dup2, 1) := by decide +kernel
theorem dX3_writeAnswers_82 : decode cX3_writeAnswers 82 = .ok (.iaload, 1) := by decide +kernel
theorem dX3_writeAnswers_83 : decode cX3_writeAnswers 83 = .ok (.iconst 1, 1) := by decide +kernel
theorem dX3_writeAnswers_84 : decode cX3_writeAnswers 84 = .ok (.iadd, 1) := by decide +kernel
theorem dX3_writeAnswers_85 : decode cX3_writeAnswers 85 = .ok (.iastore, 1) := by decide +kernel
theorem dX3_writeAnswers_86 : decode cX3_writeAnswers 86 = .ok (.iinc 1 1, 3) := by decide +kernel
theorem dX3_writeAnswers_89 : decode cX3_writeAnswers 89 = .ok (.goto (-87), 3) := by decide +kernel
theorem dX3_writeAnswers_92 : decode cX3_writeAnswers 92 = .ok (.return_, 1) := by decide +kernel
theorem dX3_bringAnswersNearer_0 : decode cX3_bringAnswersNearer 0 = .ok (.iconst 0, 1) := by decide +kernel
theorem dX3_bringAnswersNearer_1 : decode cX3_bringAnswersNearer 1 = .ok (.istore_n 3, 1) := by decide +kernel
theorem dX3_bringAnswersNearer_2 : decode cX3_bringAnswersNearer 2 = .ok (.iload_n 3, 1) := by decide +kernel
theorem dX3_bringAnswersNearer_3 : decode cX3_bringAnswersNearer 3 = .ok (.iload_n 1, 1) := by decide +kernel
theorem dX3_bringAnswersNearer_4 : decode cX3_bringAnswersNearer 4 = .ok (.if_icmp .ge 75, 3) := by decide +kernel
theorem dX3_bringAnswersNearer_7 : decode cX3_bringAnswersNearer 7 = .ok (.aload_n 0, 1) := by decide +kernel
theorem dX3_bringAnswersNearer_8 : decode cX3_bringAnswersNearer 8 = .ok (.getfield 35, 3) := by decide +kernel
theorem dX3_bringAnswersNearer_11 : decode cX3_bringAnswersNearer 11 = .ok (.getfield 104, 3) := by decide +kernel
theorem dX3_bringAnswersNearer_14 : decode cX3_bringAnswersNearer 14 = .ok (.iload_n 3, 1) := by decide +kernel
theorem dX3_bringAnswersNearer_15 : decode cX3_bringAnswersNearer 15 = .ok (.iaload, 1) := by decide +kernel
theorem dX3_bringAnswersNearer_16 : decode cX3_bringAnswersNearer 16 = .ok (.iconst 4, 1) := by decide +kernel
theorem dX3_bringAnswersNearer_17 : decode cX3_bringAnswersNearer 17 = .ok (.if_icmp .ne 56, 3) := by decide +kernel
theorem dX3_bringAnswersNearer_20 : decode cX3_bringAnswersNearer 20 = .ok (.aload_n 0, 1) := by decide +kernel
theorem dX3_bringAnswersNearer_21 : decode cX3_bringAnswersNearer 21 = .ok (.getfield 35, 3) := by decide +kernel
theorem dX3_bringAnswersNearer_24 : decode cX3_bringAnswersNearer 24 = .ok (.getfield 158, 3) := by decide +kernel
theorem dX3_bringAnswersNearer_27 : decode cX3_bringAnswersNearer 27 = .ok (.iload_n 3, 1) := by decide +kernel
theorem dX3_bringAnswersNearer_28 : decode cX3_bringAnswersNearer 28 = .ok (.iaload, 1) := by decide +kernel
theorem dX3_bringAnswersNearer_29 : decode cX3_bringAnswersNearer 29 = .ok (.ifCond .le 16, 3) := by decide +kernel
theorem dX3_bringAnswersNearer_32 : decode cX3_bringAnswersNearer 32 = .ok (.aload_n 0, 1) := by decide +kernel
theorem dX3_bringAnswersNearer_33 : decode cX3_bringAnswersNearer 33 = .ok (.getfield 35, 3) := by decide +kernel
theorem dX3_bringAnswersNearer_36 : decode cX3_bringAnswersNearer 36 = .ok (.getfield 158, 3) := by decide +kernel
theorem dX3_bringAnswersNearer_39 : decode cX3_bringAnswersNearer 39 = .ok (.iload_n 3, 1) := by decide +kernel
theorem dX3_bringAnswersNearer_40 : decode cX3_bringAnswersNearer 40 = .ok (.dup2, 1) := by decide +kernel
theorem dX3_bringAnswersNearer_41 : decode cX3_bringAnswersNearer 41 = .ok (.iaload, 1) := by decide +kernel
theorem dX3_bringAnswersNearer_42 : decode cX3_bringAnswersNearer 42 = .ok (.iconst 1, 1) := by decide +kernel
theorem dX3_bringAnswersNearer_43 : decode cX3_bringAnswersNearer 43 = .ok (.isub, 1) := by decide +kernel
theorem dX3_bringAnswersNearer_44 : decode cX3_bringAnswersNearer 44 = .ok (.iastore, 1) := by decide +kernel
theorem dX3_bringAnswersNearer_45 : decode cX3_bringAnswersNearer 45 = .ok (.aload_n 0, 1) := by decide +kernel
theorem dX3_bringAnswersNearer_46 : decode cX3_bringAnswersNearer 46 = .ok (.getfield 35, 3) := by decide +kernel
theorem dX3_bringAnswersNearer_49 : decode cX3_bringAnswersNearer 49 = .ok (.getfield 158, 3) := by decide +kernel
theorem dX3_bringAnswersNearer_52 : decode cX3_bringAnswersNearer 52 = .ok (.iload_n 3, 1) := by decide +kernel
theorem dX3_bringAnswersNearer_53 : decode cX3_bringAnswersNearer 53 = .ok (.iaload, 1) := by decide +kernel
theorem dX3_bringAnswersNearer_54 : decode cX3_bringAnswersNearer 54 = .ok (.ifCond .ne 19, 3) := by decide +kernel
theorem dX3_bringAnswersNearer_57 : decode cX3_bringAnswersNearer 57 = .ok (.iload_n 2, 1) := by decide +kernel
theorem dX3_bringAnswersNearer_58 : decode cX3_bringAnswersNearer 58 = .ok (.bipush 30, 2) := by decide +kernel
theorem dX3_bringAnswersNearer_60 : decode cX3_bringAnswersNearer 60 = .ok (.if_icmp .gt 13, 3) := by decide +kernel
theorem dX3_bringAnswersNearer_63 : decode cX3_bringAnswersNearer 63 = .ok (.aload_n 0, 1) := by decide +kernel
theorem dX3_bringAnswersNearer_64 : decode cX3_bringAnswersNearer 64 = .ok (.getfield 35, 3) := by decide +kernel
theorem dX3_bringAnswersNearer_67 : decode cX3_bringAnswersNearer 67 = .ok (.getfield 104, 3) := by decide +kernel
theorem dX3_bringAnswersNearer_70 : decode cX3_bringAnswersNearer 70 = .ok (.iload_n 3, 1) := by decide +kernel
theorem dX3_bringAnswersNearer_71 : decode cX3_bringAnswersNearer 71 = .ok (.iconst 5, 1) := by decide +kernel
theorem dX3_bringAnswersNearer_72 : decode cX3_bringAnswersNearer 72 = .ok (.iastore, 1) := by decide +kernel
theorem dX3_bringAnswersNearer_73 : decode cX3_bringAnswersNearer 73 = .ok (.iinc 3 1, 3) := by decide +kernel
theorem dX3_bringAnswersNearer_76 : decode cX3_bringAnswersNearer 76 = .ok (.goto (-74), 3) := by decide +kernel
theorem dX3_bringAnswersNearer_79 : decode cX3_bringAnswersNearer 79 = .ok (.return_, 1) := by decide +kernel
set_option maxRecDepth 20000 in
theorem ggX3_scrape_X3_mostOvergrown : GoodIn wsX3_scrape wsX3_mostOvergrown := goodIn_r _ [14, 1, 2, 5, 15, 16, 17, 13, 18, 19, 3, 20, 21, 22, 23, 24, 25, 26, 27, 28, 35, 36, 37, 38, 39, 40, 41, 42, 43, 44, 45, 46, 47, 48, 49, 50, 51, 52, 53, 54, 55, 56, 57, 58] (by decide +kernel) (by decide +kernel)
set_option maxRecDepth 20000 in
theorem gX3_scrape_X3_mostOvergrown : GoodIn wsX3_scrape (wsV RX3 161 RX3 yX3_mostOvergrown wsX3_mostOvergrown) := goodIn_app (goodIn_of _ (by decide +kernel)) ggX3_scrape_X3_mostOvergrown
set_option maxRecDepth 20000 in
theorem ggX3_scrape_X2_has : GoodIn wsX3_scrape wsX2_has := goodIn_r _ [33, 34, 45, 46, 47, 48, 49, 50, 51, 52, 53, 54] (by decide +kernel) (by decide +kernel)
set_option maxRecDepth 20000 in
theorem gX3_scrape_X2_has : GoodIn wsX3_scrape (wsV RX3 138 RX2 yX2_has wsX2_has) := goodIn_app (goodIn_of _ (by decide +kernel)) ggX3_scrape_X2_has
theorem dX3_scrape_0 : decode cX3_scrape 0 = .ok (.iconst 0, 1) := by decide +kernel
theorem dX3_scrape_1 : decode cX3_scrape 1 = .ok (.istore_n 2, 1) := by decide +kernel
theorem dX3_scrape_2 : decode cX3_scrape 2 = .ok (.iload_n 2, 1) := by decide +kernel
theorem dX3_scrape_3 : decode cX3_scrape 3 = .ok (.aload_n 0, 1) := by decide +kernel
theorem dX3_scrape_4 : decode cX3_scrape 4 = .ok (.getfield 35, 3) := by decide +kernel
theorem dX3_scrape_7 : decode cX3_scrape 7 = .ok (.getfield 84, 3) := by decide +kernel
theorem dX3_scrape_10 : decode cX3_scrape 10 = .ok (.if_icmp .ge 16, 3) := by decide +kernel
theorem dX3_scrape_13 : decode cX3_scrape 13 = .ok (.aload_n 0, 1) := by decide +kernel
theorem dX3_scrape_14 : decode cX3_scrape 14 = .ok (.getfield 50, 3) := by decide +kernel
theorem dX3_scrape_17 : decode cX3_scrape 17 = .ok (.iload_n 2, 1) := by decide +kernel
theorem dX3_scrape_18 : decode cX3_scrape 18 = .ok (.iconst 0, 1) := by decide +kernel
theorem dX3_scrape_19 : decode cX3_scrape 19 = .ok (.bastore, 1) := by decide +kernel
theorem dX3_scrape_20 : decode cX3_scrape 20 = .ok (.iinc 2 1, 3) := by decide +kernel
theorem dX3_scrape_23 : decode cX3_scrape 23 = .ok (.goto (-21), 3) := by decide +kernel
theorem dX3_scrape_26 : decode cX3_scrape 26 = .ok (.iconst 0, 1) := by decide +kernel
theorem dX3_scrape_27 : decode cX3_scrape 27 = .ok (.istore_n 2, 1) := by decide +kernel
theorem dX3_scrape_28 : decode cX3_scrape 28 = .ok (.iload_n 2, 1) := by decide +kernel
theorem dX3_scrape_29 : decode cX3_scrape 29 = .ok (.aload_n 0, 1) := by decide +kernel
theorem dX3_scrape_30 : decode cX3_scrape 30 = .ok (.getfield 39, 3) := by decide +kernel
theorem dX3_scrape_33 : decode cX3_scrape 33 = .ok (.if_icmp .ge 58, 3) := by decide +kernel
theorem dX3_scrape_36 : decode cX3_scrape 36 = .ok (.aload_n 0, 1) := by decide +kernel
theorem dX3_scrape_37 : decode cX3_scrape 37 = .ok (.iload_n 1, 1) := by decide +kernel
theorem dX3_scrape_38 : decode cX3_scrape 38 = .ok (.invokevirtual 161, 3) := by decide +kernel
theorem dX3_scrape_41 : decode cX3_scrape 41 = .ok (.istore_n 3, 1) := by decide +kernel
theorem dX3_scrape_42 : decode cX3_scrape 42 = .ok (.aload_n 0, 1) := by decide +kernel
theorem dX3_scrape_43 : decode cX3_scrape 43 = .ok (.getfield 35, 3) := by decide +kernel
theorem dX3_scrape_46 : decode cX3_scrape 46 = .ok (.iload_n 3, 1) := by decide +kernel
theorem dX3_scrape_47 : decode cX3_scrape 47 = .ok (.invokevirtual 138, 3) := by decide +kernel
theorem dX3_scrape_50 : decode cX3_scrape 50 = .ok (.ifCond .ne 4, 3) := by decide +kernel
theorem dX3_scrape_53 : decode cX3_scrape 53 = .ok (.return_, 1) := by decide +kernel
theorem dX3_scrape_54 : decode cX3_scrape 54 = .ok (.aload_n 0, 1) := by decide +kernel
theorem dX3_scrape_55 : decode cX3_scrape 55 = .ok (.getfield 35, 3) := by decide +kernel
theorem dX3_scrape_58 : decode cX3_scrape 58 = .ok (.getfield 117, 3) := by decide +kernel
theorem dX3_scrape_61 : decode cX3_scrape 61 = .ok (.iload_n 3, 1) := by decide +kernel
theorem dX3_scrape_62 : decode cX3_scrape 62 = .ok (.iconst 0, 1) := by decide +kernel
theorem dX3_scrape_63 : decode cX3_scrape 63 = .ok (.aload_n 0, 1) := by decide +kernel
theorem dX3_scrape_64 : decode cX3_scrape 64 = .ok (.getfield 35, 3) := by decide +kernel
theorem dX3_scrape_67 : decode cX3_scrape 67 = .ok (.getfield 117, 3) := by decide +kernel
theorem dX3_scrape_70 : decode cX3_scrape 70 = .ok (.iload_n 3, 1) := by decide +kernel
theorem dX3_scrape_71 : decode cX3_scrape 71 = .ok (.iaload, 1) := by decide +kernel
theorem dX3_scrape_72 : decode cX3_scrape 72 = .ok (.iconst 2, 1) := by decide +kernel
theorem dX3_scrape_73 : decode cX3_scrape 73 = .ok (.isub, 1) := by decide +kernel
theorem dX3_scrape_74 : decode cX3_scrape 74 = .ok (.invokestatic 164, 3) := by decide +kernel
theorem dX3_scrape_77 : decode cX3_scrape 77 = .ok (.iastore, 1) := by decide +kernel
theorem dX3_scrape_78 : decode cX3_scrape 78 = .ok (.aload_n 0, 1) := by decide +kernel
theorem dX3_scrape_79 : decode cX3_scrape 79 = .ok (.getfield 50, 3) := by decide +kernel
theorem dX3_scrape_82 : decode cX3_scrape 82 = .ok (.iload_n 3, 1) := by decide +kernel
theorem dX3_scrape_83 : decode cX3_scrape 83 = .ok (.iconst 1, 1) := by decide +kernel
theorem dX3_scrape_84 : decode cX3_scrape 84 = .ok (.bastore, 1) := by decide +kernel
theorem dX3_scrape_85 : decode cX3_scrape 85 = .ok (.iinc 2 1, 3) := by decide +kernel
theorem dX3_scrape_88 : decode cX3_scrape 88 = .ok (.goto (-60), 3) := by decide +kernel
theorem dX3_scrape_91 : decode cX3_scrape 91 = .ok (.return_, 1) := by decide +kernel
set_option maxRecDepth 20000 in
theorem ggX3_mostOvergrown_X3_canBeScraped : GoodIn wsX3_mostOvergrown wsX3_canBeScraped := goodIn_r _ [8, 1, 9, 10, 11, 12, 13, 14, 15, 16, 17, 18, 19, 20, 21, 22, 23, 24, 25, 26, 27, 28, 29, 30, 31, 32, 33, 34, 35, 36, 37, 38, 39, 40, 41, 42, 43] (by decide +kernel) (by decide +kernel)
set_option maxRecDepth 20000 in
theorem gX3_mostOvergrown_X3_canBeScraped : GoodIn wsX3_mostOvergrown (wsV RX3 170 RX3 yX3_canBeScraped wsX3_canBeScraped) := goodIn_app (goodIn_of _ (by decide +kernel)) ggX3_mostOvergrown_X3_canBeScraped
theorem dX3_mostOvergrown_0 : decode cX3_mostOvergrown 0 = .ok (.iconst (-1), 1) := by decide +kernel
theorem dX3_mostOvergrown_1 : decode cX3_mostOvergrown 1 = .ok (.istore_n 2, 1) := by decide +kernel
theorem dX3_mostOvergrown_2 : decode cX3_mostOvergrown 2 = .ok (.iconst 0, 1) := by decide +kernel
theorem dX3_mostOvergrown_3 : decode cX3_mostOvergrown 3 = .ok (.istore_n 3, 1) := by decide +kernel
theorem dX3_mostOvergrown_4 : decode cX3_mostOvergrown 4 = .ok (.iconst 0, 1) := by decide +kernel
theorem dX3_mostOvergrown_5 : decode cX3_mostOvergrown 5 = .ok (.istore 4, 2) := by decide +kernel
theorem dX3_mostOvergrown_7 : decode cX3_mostOvergrown 7 = .ok (.iload 4, 2) := by decide +kernel
theorem dX3_mostOvergrown_9 : decode cX3_mostOvergrown 9 = .ok (.aload_n 0, 1) := by decide +kernel
theorem dX3_mostOvergrown_10 : decode cX3_mostOvergrown 10 = .ok (.getfield 35, 3) := by decide +kernel
theorem dX3_mostOvergrown_13 : decode cX3_mostOvergrown 13 = .ok (.getfield 84, 3) := by decide +kernel
theorem dX3_mostOvergrown_16 : decode cX3_mostOvergrown 16 = .ok (.if_icmp .ge 47, 3) := by decide +kernel
theorem dX3_mostOvergrown_19 : decode cX3_mostOvergrown 19 = .ok (.aload_n 0, 1) := by decide +kernel
theorem dX3_mostOvergrown_20 : decode cX3_mostOvergrown 20 = .ok (.getfield 35, 3) := by decide +kernel
theorem dX3_mostOvergrown_23 : decode cX3_mostOvergrown 23 = .ok (.getfield 117, 3) := by decide +kernel
theorem dX3_mostOvergrown_26 : decode cX3_mostOvergrown 26 = .ok (.iload 4, 2) := by decide +kernel
theorem dX3_mostOvergrown_28 : decode cX3_mostOvergrown 28 = .ok (.iaload, 1) := by decide +kernel
theorem dX3_mostOvergrown_29 : decode cX3_mostOvergrown 29 = .ok (.iload_n 3, 1) := by decide +kernel
theorem dX3_mostOvergrown_30 : decode cX3_mostOvergrown 30 = .ok (.if_icmp .le 27, 3) := by decide +kernel
theorem dX3_mostOvergrown_33 : decode cX3_mostOvergrown 33 = .ok (.aload_n 0, 1) := by decide +kernel
theorem dX3_mostOvergrown_34 : decode cX3_mostOvergrown 34 = .ok (.iload 4, 2) := by decide +kernel
theorem dX3_mostOvergrown_36 : decode cX3_mostOvergrown 36 = .ok (.iload_n 1, 1) := by decide +kernel
theorem dX3_mostOvergrown_37 : decode cX3_mostOvergrown 37 = .ok (.invokevirtual 170, 3) := by decide +kernel
theorem dX3_mostOvergrown_40 : decode cX3_mostOvergrown 40 = .ok (.ifCond .eq 17, 3) := by decide +kernel
theorem dX3_mostOvergrown_43 : decode cX3_mostOvergrown 43 = .ok (.iload 4, 2) := by decide +kernel
theorem dX3_mostOvergrown_45 : decode cX3_mostOvergrown 45 = .ok (.istore_n 2, 1) := by decide +kernel
theorem dX3_mostOvergrown_46 : decode cX3_mostOvergrown 46 = .ok (.aload_n 0, 1) := by decide +kernel
theorem dX3_mostOvergrown_47 : decode cX3_mostOvergrown 47 = .ok (.getfield 35, 3) := by decide +kernel
theorem dX3_mostOvergrown_50 : decode cX3_mostOvergrown 50 = .ok (.getfield 117, 3) := by decide +kernel
theorem dX3_mostOvergrown_53 : decode cX3_mostOvergrown 53 = .ok (.iload 4, 2) := by decide +kernel
theorem dX3_mostOvergrown_55 : decode cX3_mostOvergrown 55 = .ok (.iaload, 1) := by decide +kernel
theorem dX3_mostOvergrown_56 : decode cX3_mostOvergrown 56 = .ok (.istore_n 3, 1) := by decide +kernel
theorem dX3_mostOvergrown_57 : decode cX3_mostOvergrown 57 = .ok (.iinc 4 1, 3) := by decide +kernel
theorem dX3_mostOvergrown_60 : decode cX3_mostOvergrown 60 = .ok (.goto (-53), 3) := by decide +kernel
theorem dX3_mostOvergrown_63 : decode cX3_mostOvergrown 63 = .ok (.iload_n 2, 1) := by decide +kernel
theorem dX3_mostOvergrown_64 : decode cX3_mostOvergrown 64 = .ok (.ireturn, 1) := by decide +kernel
set_option maxRecDepth 20000 in
theorem ggX3_canBeScraped_X0_isUnder : GoodIn wsX3_canBeScraped wsX0_isUnder := goodIn_r _ [10, 11, 12, 33, 34, 35, 36] (by decide +kernel) (by decide +kernel)
set_option maxRecDepth 20000 in
theorem gX3_canBeScraped_X0_isUnder : GoodIn wsX3_canBeScraped (wsV RX3 113 RX0 yX0_isUnder wsX0_isUnder) := goodIn_app (goodIn_of _ (by decide +kernel)) ggX3_canBeScraped_X0_isUnder
theorem dX3_canBeScraped_0 : decode cX3_canBeScraped 0 = .ok (.aload_n 0, 1) := by decide +kernel
theorem dX3_canBeScraped_1 : decode cX3_canBeScraped 1 = .ok (.getfield 35, 3) := by decide +kernel
theorem dX3_canBeScraped_4 : decode cX3_canBeScraped 4 = .ok (.getfield 104, 3) := by decide +kernel
theorem dX3_canBeScraped_7 : decode cX3_canBeScraped 7 = .ok (.iload_n 1, 1) := by decide +kernel
theorem dX3_canBeScraped_8 : decode cX3_canBeScraped 8 = .ok (.iaload, 1) := by decide +kernel
theorem dX3_canBeScraped_9 : decode cX3_canBeScraped 9 = .ok (.iconst 1, 1) := by decide +kernel
theorem dX3_canBeScraped_10 : decode cX3_canBeScraped 10 = .ok (.if_icmp .ne 36, 3) := by decide +kernel
theorem dX3_canBeScraped_13 : decode cX3_canBeScraped 13 = .ok (.aload_n 0, 1) := by decide +kernel
theorem dX3_canBeScraped_14 : decode cX3_canBeScraped 14 = .ok (.getfield 50, 3) := by decide +kernel
theorem dX3_canBeScraped_17 : decode cX3_canBeScraped 17 = .ok (.iload_n 1, 1) := by decide +kernel
theorem dX3_canBeScraped_18 : decode cX3_canBeScraped 18 = .ok (.baload, 1) := by decide +kernel
theorem dX3_canBeScraped_19 : decode cX3_canBeScraped 19 = .ok (.ifCond .ne 27, 3) := by decide +kernel
theorem dX3_canBeScraped_22 : decode cX3_canBeScraped 22 = .ok (.aload_n 0, 1) := by decide +kernel
theorem dX3_canBeScraped_23 : decode cX3_canBeScraped 23 = .ok (.getfield 21, 3) := by decide +kernel
theorem dX3_canBeScraped_26 : decode cX3_canBeScraped 26 = .ok (.aload_n 0, 1) := by decide +kernel
theorem dX3_canBeScraped_27 : decode cX3_canBeScraped 27 = .ok (.getfield 35, 3) := by decide +kernel
theorem dX3_canBeScraped_30 : decode cX3_canBeScraped 30 = .ok (.getfield 110, 3) := by decide +kernel
theorem dX3_canBeScraped_33 : decode cX3_canBeScraped 33 = .ok (.iload_n 1, 1) := by decide +kernel
theorem dX3_canBeScraped_34 : decode cX3_canBeScraped 34 = .ok (.iaload, 1) := by decide +kernel
theorem dX3_canBeScraped_35 : decode cX3_canBeScraped 35 = .ok (.iload_n 2, 1) := by decide +kernel
theorem dX3_canBeScraped_36 : decode cX3_canBeScraped 36 = .ok (.invokevirtual 113, 3) := by decide +kernel
theorem dX3_canBeScraped_39 : decode cX3_canBeScraped 39 = .ok (.ifCond .ne 7, 3) := by decide +kernel
theorem dX3_canBeScraped_42 : decode cX3_canBeScraped 42 = .ok (.iconst 1, 1) := by decide +kernel
theorem dX3_canBeScraped_43 : decode cX3_canBeScraped 43 = .ok (.goto 4, 3) := by decide +kernel
theorem dX3_canBeScraped_46 : decode cX3_canBeScraped 46 = .ok (.iconst 0, 1) := by decide +kernel
theorem dX3_canBeScraped_47 : decode cX3_canBeScraped 47 = .ok (.ireturn, 1) := by decide +kernel
set_option maxRecDepth 20000 in
theorem ggX3_sort_X2_heaviestInOffice : GoodIn wsX3_sort wsX2_heaviestInOffice := goodIn_r _ [13, 14, 15, 16, 63, 64, 65, 66, 67, 68, 69, 70, 71, 72] (by decide +kernel) (by decide +kernel)
set_option maxRecDepth 20000 in
theorem gX3_sort_X2_heaviestInOffice : GoodIn wsX3_sort (wsV RX3 173 RX2 yX2_heaviestInOffice wsX2_heaviestInOffice) := goodIn_app (goodIn_of _ (by decide +kernel)) ggX3_sort_X2_heaviestInOffice
set_option maxRecDepth 20000 in
theorem ggX3_sort_X2_has : GoodIn wsX3_sort wsX2_has := goodIn_r _ [20, 14, 63, 64, 65, 66, 67, 68, 69, 70, 71, 72] (by decide +kernel) (by decide +kernel)
set_option maxRecDepth 20000 in
theorem gX3_sort_X2_has : GoodIn wsX3_sort (wsV RX3 138 RX2 yX2_has wsX2_has) := goodIn_app (goodIn_of _ (by decide +kernel)) ggX3_sort_X2_has
set_option maxRecDepth 20000 in
theorem ggX3_sort_X1_heightOf : GoodIn wsX3_sort wsX1_heightOf := goodIn_r _ [25, 26, 27, 28, 29, 24, 30, 31, 77, 78, 79, 80, 81, 82] (by decide +kernel) (by decide +kernel)
set_option maxRecDepth 20000 in
theorem gX3_sort_X1_heightOf : GoodIn wsX3_sort (wsV RX3 126 RX1 yX1_heightOf wsX1_heightOf) := goodIn_app (goodIn_of _ (by decide +kernel)) ggX3_sort_X1_heightOf
set_option maxRecDepth 20000 in
theorem ggX3_sort_X0_nearestWithRoom : GoodIn wsX3_sort wsX0_nearestWithRoom := goodIn_r _ [36, 37, 38, 39, 40, 41, 42, 35, 43, 44, 45, 46, 47, 48, 73, 74, 75, 76] (by decide +kernel) (by decide +kernel)
set_option maxRecDepth 20000 in
theorem gX3_sort_X0_nearestWithRoom : GoodIn wsX3_sort (wsV RX3 176 RX0 yX0_nearestWithRoom wsX0_nearestWithRoom) := goodIn_app (goodIn_of _ (by decide +kernel)) ggX3_sort_X0_nearestWithRoom
set_option maxRecDepth 20000 in
theorem ggX3_sort_X0_has : GoodIn wsX3_sort wsX0_has := goodIn_r _ [52, 37, 73, 74, 75, 76] (by decide +kernel) (by decide +kernel)
set_option maxRecDepth 20000 in
theorem gX3_sort_X0_has : GoodIn wsX3_sort (wsV RX3 142 RX0 yX0_has wsX0_has) := goodIn_app (goodIn_of _ (by decide +kernel)) ggX3_sort_X0_has
theorem dX3_sort_0 : decode cX3_sort 0 = .ok (.iconst 0, 1) := by decide +kernel
theorem dX3_sort_1 : decode cX3_sort 1 = .ok (.istore_n 1, 1) := by decide +kernel
theorem dX3_sort_2 : decode cX3_sort 2 = .ok (.iload_n 1, 1) := by decide +kernel
theorem dX3_sort_3 : decode cX3_sort 3 = .ok (.aload_n 0, 1) := by decide +kernel
theorem dX3_sort_4 : decode cX3_sort 4 = .ok (.getfield 43, 3) := by decide +kernel
theorem dX3_sort_7 : decode cX3_sort 7 = .ok (.if_icmp .ge 98, 3) := by decide +kernel
theorem dX3_sort_10 : decode cX3_sort 10 = .ok (.aload_n 0, 1) := by decide +kernel
theorem dX3_sort_11 : decode cX3_sort 11 = .ok (.getfield 35, 3) := by decide +kernel
theorem dX3_sort_14 : decode cX3_sort 14 = .ok (.invokevirtual 173, 3) := by decide +kernel
theorem dX3_sort_17 : decode cX3_sort 17 = .ok (.istore_n 2, 1) := by decide +kernel
theorem dX3_sort_18 : decode cX3_sort 18 = .ok (.aload_n 0, 1) := by decide +kernel
theorem dX3_sort_19 : decode cX3_sort 19 = .ok (.getfield 35, 3) := by decide +kernel
theorem dX3_sort_22 : decode cX3_sort 22 = .ok (.iload_n 2, 1) := by decide +kernel
theorem dX3_sort_23 : decode cX3_sort 23 = .ok (.invokevirtual 138, 3) := by decide +kernel
theorem dX3_sort_26 : decode cX3_sort 26 = .ok (.ifCond .ne 4, 3) := by decide +kernel
theorem dX3_sort_29 : decode cX3_sort 29 = .ok (.return_, 1) := by decide +kernel
theorem dX3_sort_30 : decode cX3_sort 30 = .ok (.aload_n 0, 1) := by decide +kernel
theorem dX3_sort_31 : decode cX3_sort 31 = .ok (.getfield 21, 3) := by decide +kernel
theorem dX3_sort_34 : decode cX3_sort 34 = .ok (.aload_n 0, 1) := by decide +kernel
theorem dX3_sort_35 : decode cX3_sort 35 = .ok (.getfield 28, 3) := by decide +kernel
theorem dX3_sort_38 : decode cX3_sort 38 = .ok (.aload_n 0, 1) := by decide +kernel
theorem dX3_sort_39 : decode cX3_sort 39 = .ok (.getfield 35, 3) := by decide +kernel
theorem dX3_sort_42 : decode cX3_sort 42 = .ok (.getfield 123, 3) := by decide +kernel
theorem dX3_sort_45 : decode cX3_sort 45 = .ok (.iload_n 2, 1) := by decide +kernel
theorem dX3_sort_46 : decode cX3_sort 46 = .ok (.iaload, 1) := by decide +kernel
theorem dX3_sort_47 : decode cX3_sort 47 = .ok (.invokevirtual 126, 3) := by decide +kernel
theorem dX3_sort_50 : decode cX3_sort 50 = .ok (.invokevirtual 176, 3) := by decide +kernel
theorem dX3_sort_53 : decode cX3_sort 53 = .ok (.istore_n 3, 1) := by decide +kernel
theorem dX3_sort_54 : decode cX3_sort 54 = .ok (.aload_n 0, 1) := by decide +kernel
theorem dX3_sort_55 : decode cX3_sort 55 = .ok (.getfield 21, 3) := by decide +kernel
theorem dX3_sort_58 : decode cX3_sort 58 = .ok (.iload_n 3, 1) := by decide +kernel
theorem dX3_sort_59 : decode cX3_sort 59 = .ok (.invokevirtual 142, 3) := by decide +kernel
theorem dX3_sort_62 : decode cX3_sort 62 = .ok (.ifCond .ne 4, 3) := by decide +kernel
theorem dX3_sort_65 : decode cX3_sort 65 = .ok (.return_, 1) := by decide +kernel
theorem dX3_sort_66 : decode cX3_sort 66 = .ok (.aload_n 0, 1) := by decide +kernel
theorem dX3_sort_67 : decode cX3_sort 67 = .ok (.getfield 35, 3) := by decide +kernel
theorem dX3_sort_70 : decode cX3_sort 70 = .ok (.getfield 104, 3) := by decide +kernel
theorem dX3_sort_73 : decode cX3_sort 73 = .ok (.iload_n 2, 1) := by decide +kernel
theorem dX3_sort_74 : decode cX3_sort 74 = .ok (.iconst 1, 1) := by decide +kernel
theorem dX3_sort_75 : decode cX3_sort 75 = .ok (.iastore, 1) := by decide +kernel
theorem dX3_sort_76 : decode cX3_sort 76 = .ok (.aload_n 0, 1) := by decide +kernel
theorem dX3_sort_77 : decode cX3_sort 77 = .ok (.getfield 35, 3) := by decide +kernel
theorem dX3_sort_80 : decode cX3_sort 80 = .ok (.getfield 110, 3) := by decide +kernel
theorem dX3_sort_83 : decode cX3_sort 83 = .ok (.iload_n 2, 1) := by decide +kernel
theorem dX3_sort_84 : decode cX3_sort 84 = .ok (.iload_n 3, 1) := by decide +kernel
theorem dX3_sort_85 : decode cX3_sort 85 = .ok (.iastore, 1) := by decide +kernel
theorem dX3_sort_86 : decode cX3_sort 86 = .ok (.aload_n 0, 1) := by decide +kernel
theorem dX3_sort_87 : decode cX3_sort 87 = .ok (.getfield 21, 3) := by decide +kernel
theorem dX3_sort_90 : decode cX3_sort 90 = .ok (.getfield 143, 3) := by decide +kernel
theorem dX3_sort_93 : decode cX3_sort 93 = .ok (.iload_n 3, 1) := by decide +kernel
theorem dX3_sort_94 : decode cX3_sort 94 = .ok (.dup2, 1) := by decide +kernel
theorem dX3_sort_95 : decode cX3_sort 95 = .ok (.iaload, 1) := by decide +kernel
theorem dX3_sort_96 : decode cX3_sort 96 = .ok (.iconst 1, 1) := by decide +kernel
theorem dX3_sort_97 : decode cX3_sort 97 = .ok (.iadd, 1) := by decide +kernel
theorem dX3_sort_98 : decode cX3_sort 98 = .ok (.iastore, 1) := by decide +kernel
theorem dX3_sort_99 : decode cX3_sort 99 = .ok (.iinc 1 1, 3) := by decide +kernel
theorem dX3_sort_102 : decode cX3_sort 102 = .ok (.goto (-100), 3) := by decide +kernel
theorem dX3_sort_105 : decode cX3_sort 105 = .ok (.return_, 1) := by decide +kernel
set_option maxRecDepth 20000 in
theorem ggX3_binFact_X0_has : GoodIn wsX3_binFact wsX0_has := goodIn_r _ [10, 11, 54, 55, 56, 57] (by decide +kernel) (by decide +kernel)
set_option maxRecDepth 20000 in
theorem gX3_binFact_X0_has : GoodIn wsX3_binFact (wsV RX3 142 RX0 yX0_has wsX0_has) := goodIn_app (goodIn_of _ (by decide +kernel)) ggX3_binFact_X0_has
set_option maxRecDepth 20000 in
theorem ggX3_binFact_X3_tideNow : GoodIn wsX3_binFact wsX3_tideNow := goodIn_r _ [16, 17, 18, 19, 20, 21, 22, 23, 24, 25, 26, 27, 28, 29, 44, 45, 46, 47, 48, 49, 50, 51, 52, 53, 58, 59] (by decide +kernel) (by decide +kernel)
set_option maxRecDepth 20000 in
theorem gX3_binFact_X3_tideNow : GoodIn wsX3_binFact (wsV RX3 80 RX3 yX3_tideNow wsX3_tideNow) := goodIn_app (goodIn_of _ (by decide +kernel)) ggX3_binFact_X3_tideNow
set_option maxRecDepth 20000 in
theorem ggX3_binFact_X0_isUnder : GoodIn wsX3_binFact wsX0_isUnder := goodIn_r _ [33, 11, 34, 54, 55, 56, 57] (by decide +kernel) (by decide +kernel)
set_option maxRecDepth 20000 in
theorem gX3_binFact_X0_isUnder : GoodIn wsX3_binFact (wsV RX3 113 RX0 yX0_isUnder wsX0_isUnder) := goodIn_app (goodIn_of _ (by decide +kernel)) ggX3_binFact_X0_isUnder
set_option maxRecDepth 20000 in
theorem ggX3_binFact_X2_growthIn : GoodIn wsX3_binFact wsX2_growthIn := goodIn_r _ [39, 40, 41, 42, 43, 60, 61, 62, 63, 64, 65, 66, 67, 68, 69] (by decide +kernel) (by decide +kernel)
set_option maxRecDepth 20000 in
theorem gX3_binFact_X2_growthIn : GoodIn wsX3_binFact (wsV RX3 185 RX2 yX2_growthIn wsX2_growthIn) := goodIn_app (goodIn_of _ (by decide +kernel)) ggX3_binFact_X2_growthIn
theorem dX3_binFact_0 : decode cX3_binFact 0 = .ok (.aload_n 0, 1) := by decide +kernel
theorem dX3_binFact_1 : decode cX3_binFact 1 = .ok (.getfield 21, 3) := by decide +kernel
theorem dX3_binFact_4 : decode cX3_binFact 4 = .ok (.iload_n 1, 1) := by decide +kernel
theorem dX3_binFact_5 : decode cX3_binFact 5 = .ok (.invokevirtual 142, 3) := by decide +kernel
theorem dX3_binFact_8 : decode cX3_binFact 8 = .ok (.ifCond .ne 5, 3) := by decide +kernel
theorem dX3_binFact_11 : decode cX3_binFact 11 = .ok (.iconst 0, 1) := by decide +kernel
theorem dX3_binFact_12 : decode cX3_binFact 12 = .ok (.ireturn, 1) := by decide +kernel
theorem dX3_binFact_13 : decode cX3_binFact 13 = .ok (.iload_n 2, 1) := by decide +kernel
theorem dX3_binFact_14 : decode cX3_binFact 14 = .ok (.tableswitch 94 0 4 #[34, 44, 54, 64, 85], 34) := by decide +kernel
theorem dX3_binFact_48 : decode cX3_binFact 48 = .ok (.aload_n 0, 1) := by decide +kernel
theorem dX3_binFact_49 : decode cX3_binFact 49 = .ok (.getfield 21, 3) := by decide +kernel
theorem dX3_binFact_52 : decode cX3_binFact 52 = .ok (.getfield 179, 3) := by decide +kernel
theorem dX3_binFact_55 : decode cX3_binFact 55 = .ok (.iload_n 1, 1) := by decide +kernel
theorem dX3_binFact_56 : decode cX3_binFact 56 = .ok (.iaload, 1) := by decide +kernel
theorem dX3_binFact_57 : decode cX3_binFact 57 = .ok (.ireturn, 1) := by decide +kernel
theorem dX3_binFact_58 : decode cX3_binFact 58 = .ok (.aload_n 0, 1) := by decide +kernel
theorem dX3_binFact_59 : decode cX3_binFact 59 = .ok (.getfield 21, 3) := by decide +kernel
theorem dX3_binFact_62 : decode cX3_binFact 62 = .ok (.getfield 182, 3) := by decide +kernel
theorem dX3_binFact_65 : decode cX3_binFact 65 = .ok (.iload_n 1, 1) := by decide +kernel
theorem dX3_binFact_66 : decode cX3_binFact 66 = .ok (.iaload, 1) := by decide +kernel
theorem dX3_binFact_67 : decode cX3_binFact 67 = .ok (.ireturn, 1) := by decide +kernel
theorem dX3_binFact_68 : decode cX3_binFact 68 = .ok (.aload_n 0, 1) := by decide +kernel
theorem dX3_binFact_69 : decode cX3_binFact 69 = .ok (.getfield 21, 3) := by decide +kernel
theorem dX3_binFact_72 : decode cX3_binFact 72 = .ok (.getfield 143, 3) := by decide +kernel
theorem dX3_binFact_75 : decode cX3_binFact 75 = .ok (.iload_n 1, 1) := by decide +kernel
theorem dX3_binFact_76 : decode cX3_binFact 76 = .ok (.iaload, 1) := by decide +kernel
theorem dX3_binFact_77 : decode cX3_binFact 77 = .ok (.ireturn, 1) := by decide +kernel
theorem dX3_binFact_78 : decode cX3_binFact 78 = .ok (.aload_n 0, 1) := by decide +kernel
theorem dX3_binFact_79 : decode cX3_binFact 79 = .ok (.getfield 21, 3) := by decide +kernel
theorem dX3_binFact_82 : decode cX3_binFact 82 = .ok (.iload_n 1, 1) := by decide +kernel
theorem dX3_binFact_83 : decode cX3_binFact 83 = .ok (.aload_n 0, 1) := by decide +kernel
theorem dX3_binFact_84 : decode cX3_binFact 84 = .ok (.invokevirtual 80, 3) := by decide +kernel
theorem dX3_binFact_87 : decode cX3_binFact 87 = .ok (.invokevirtual 113, 3) := by decide +kernel
theorem dX3_binFact_90 : decode cX3_binFact 90 = .ok (.ifCond .eq 7, 3) := by decide +kernel
theorem dX3_binFact_93 : decode cX3_binFact 93 = .ok (.iconst 1, 1) := by decide +kernel
theorem dX3_binFact_94 : decode cX3_binFact 94 = .ok (.goto 4, 3) := by decide +kernel
theorem dX3_binFact_97 : decode cX3_binFact 97 = .ok (.iconst 0, 1) := by decide +kernel
theorem dX3_binFact_98 : decode cX3_binFact 98 = .ok (.ireturn, 1) := by decide +kernel
theorem dX3_binFact_99 : decode cX3_binFact 99 = .ok (.aload_n 0, 1) := by decide +kernel
theorem dX3_binFact_100 : decode cX3_binFact 100 = .ok (.getfield 35, 3) := by decide +kernel
theorem dX3_binFact_103 : decode cX3_binFact 103 = .ok (.iload_n 1, 1) := by decide +kernel
theorem dX3_binFact_104 : decode cX3_binFact 104 = .ok (.invokevirtual 185, 3) := by decide +kernel
theorem dX3_binFact_107 : decode cX3_binFact 107 = .ok (.ireturn, 1) := by decide +kernel
theorem dX3_binFact_108 : decode cX3_binFact 108 = .ok (.iconst 0, 1) := by decide +kernel
theorem dX3_binFact_109 : decode cX3_binFact 109 = .ok (.ireturn, 1) := by decide +kernel
set_option maxRecDepth 20000 in
theorem ggX3_total_X2_inState : GoodIn wsX3_total wsX2_inState := goodIn_r _ [16, 17, 18, 39, 40, 41, 42, 43, 44, 45, 46, 47, 48] (by decide +kernel) (by decide +kernel)
set_option maxRecDepth 20000 in
theorem gX3_total_X2_inState : GoodIn wsX3_total (wsV RX3 191 RX2 yX2_inState wsX2_inState) := goodIn_app (goodIn_of _ (by decide +kernel)) ggX3_total_X2_inState
theorem dX3_total_0 : decode cX3_total 0 = .ok (.iload_n 1, 1) := by decide +kernel
theorem dX3_total_1 : decode cX3_total 1 = .ok (.tableswitch 114 0 12 #[67, 72, 80, 88, 114, 114, 114, 114, 114, 114, 96, 104, 109], 67) := by decide +kernel
theorem dX3_total_68 : decode cX3_total 68 = .ok (.aload_n 0, 1) := by decide +kernel
theorem dX3_total_69 : decode cX3_total 69 = .ok (.getfield 67, 3) := by decide +kernel
theorem dX3_total_72 : decode cX3_total 72 = .ok (.ireturn, 1) := by decide +kernel
theorem dX3_total_73 : decode cX3_total 73 = .ok (.aload_n 0, 1) := by decide +kernel
theorem dX3_total_74 : decode cX3_total 74 = .ok (.getfield 21, 3) := by decide +kernel
theorem dX3_total_77 : decode cX3_total 77 = .ok (.getfield 188, 3) := by decide +kernel
theorem dX3_total_80 : decode cX3_total 80 = .ok (.ireturn, 1) := by decide +kernel
theorem dX3_total_81 : decode cX3_total 81 = .ok (.aload_n 0, 1) := by decide +kernel
theorem dX3_total_82 : decode cX3_total 82 = .ok (.getfield 28, 3) := by decide +kernel
theorem dX3_total_85 : decode cX3_total 85 = .ok (.getfield 189, 3) := by decide +kernel
theorem dX3_total_88 : decode cX3_total 88 = .ok (.ireturn, 1) := by decide +kernel
theorem dX3_total_89 : decode cX3_total 89 = .ok (.aload_n 0, 1) := by decide +kernel
theorem dX3_total_90 : decode cX3_total 90 = .ok (.getfield 35, 3) := by decide +kernel
theorem dX3_total_93 : decode cX3_total 93 = .ok (.getfield 84, 3) := by decide +kernel
theorem dX3_total_96 : decode cX3_total 96 = .ok (.ireturn, 1) := by decide +kernel
theorem dX3_total_97 : decode cX3_total 97 = .ok (.aload_n 0, 1) := by decide +kernel
theorem dX3_total_98 : decode cX3_total 98 = .ok (.getfield 12, 3) := by decide +kernel
theorem dX3_total_101 : decode cX3_total 101 = .ok (.getfield 190, 3) := by decide +kernel
theorem dX3_total_104 : decode cX3_total 104 = .ok (.ireturn, 1) := by decide +kernel
theorem dX3_total_105 : decode cX3_total 105 = .ok (.aload_n 0, 1) := by decide +kernel
theorem dX3_total_106 : decode cX3_total 106 = .ok (.getfield 39, 3) := by decide +kernel
theorem dX3_total_109 : decode cX3_total 109 = .ok (.ireturn, 1) := by decide +kernel
theorem dX3_total_110 : decode cX3_total 110 = .ok (.aload_n 0, 1) := by decide +kernel
theorem dX3_total_111 : decode cX3_total 111 = .ok (.getfield 43, 3) := by decide +kernel
theorem dX3_total_114 : decode cX3_total 114 = .ok (.ireturn, 1) := by decide +kernel
theorem dX3_total_115 : decode cX3_total 115 = .ok (.aload_n 0, 1) := by decide +kernel
theorem dX3_total_116 : decode cX3_total 116 = .ok (.getfield 35, 3) := by decide +kernel
theorem dX3_total_119 : decode cX3_total 119 = .ok (.iload_n 1, 1) := by decide +kernel
theorem dX3_total_120 : decode cX3_total 120 = .ok (.iconst 4, 1) := by decide +kernel
theorem dX3_total_121 : decode cX3_total 121 = .ok (.isub, 1) := by decide +kernel
theorem dX3_total_122 : decode cX3_total 122 = .ok (.invokevirtual 191, 3) := by decide +kernel
theorem dX3_total_125 : decode cX3_total 125 = .ok (.ireturn, 1) := by decide +kernel
theorem dX4_init_0 : decode cX4_init 0 = .ok (.aload_n 0, 1) := by decide +kernel
theorem dX4_init_1 : decode cX4_init 1 = .ok (.invokespecial 3, 3) := by decide +kernel
theorem dX4_init_4 : decode cX4_init 4 = .ok (.aload_n 0, 1) := by decide +kernel
theorem dX4_init_5 : decode cX4_init 5 = .ok (.bipush 30, 2) := by decide +kernel
theorem dX4_init_7 : decode cX4_init 7 = .ok (.newarray .int, 2) := by decide +kernel
theorem dX4_init_9 : decode cX4_init 9 = .ok (.putfield 9, 3) := by decide +kernel
theorem dX4_init_12 : decode cX4_init 12 = .ok (.aload_n 0, 1) := by decide +kernel
theorem dX4_init_13 : decode cX4_init 13 = .ok (.getstatic 15, 3) := by decide +kernel
theorem dX4_init_16 : decode cX4_init 16 = .ok (.arraylength, 1) := by decide +kernel
theorem dX4_init_17 : decode cX4_init 17 = .ok (.putfield 18, 3) := by decide +kernel
theorem dX4_init_20 : decode cX4_init 20 = .ok (.getstatic 15, 3) := by decide +kernel
theorem dX4_init_23 : decode cX4_init 23 = .ok (.iconst 0, 1) := by decide +kernel
theorem dX4_init_24 : decode cX4_init 24 = .ok (.aload_n 0, 1) := by decide +kernel
theorem dX4_init_25 : decode cX4_init 25 = .ok (.getfield 9, 3) := by decide +kernel
theorem dX4_init_28 : decode cX4_init 28 = .ok (.iconst 0, 1) := by decide +kernel
theorem dX4_init_29 : decode cX4_init 29 = .ok (.getstatic 15, 3) := by decide +kernel
theorem dX4_init_32 : decode cX4_init 32 = .ok (.arraylength, 1) := by decide +kernel
theorem dX4_init_33 : decode cX4_init 33 = .ok (.invokestatic 22, 3) := by decide +kernel
theorem dX4_init_36 : decode cX4_init 36 = .ok (.return_, 1) := by decide +kernel
theorem dX4_begin_0 : decode cX4_begin 0 = .ok (.aload_n 0, 1) := by decide +kernel
theorem dX4_begin_1 : decode cX4_begin 1 = .ok (.getfield 9, 3) := by decide +kernel
theorem dX4_begin_4 : decode cX4_begin 4 = .ok (.iconst 0, 1) := by decide +kernel
theorem dX4_begin_5 : decode cX4_begin 5 = .ok (.iload_n 1, 1) := by decide +kernel
theorem dX4_begin_6 : decode cX4_begin 6 = .ok (.iastore, 1) := by decide +kernel
theorem dX4_begin_7 : decode cX4_begin 7 = .ok (.aload_n 0, 1) := by decide +kernel
theorem dX4_begin_8 : decode cX4_begin 8 = .ok (.iconst 1, 1) := by decide +kernel
theorem dX4_begin_9 : decode cX4_begin 9 = .ok (.putfield 18, 3) := by decide +kernel
theorem dX4_begin_12 : decode cX4_begin 12 = .ok (.return_, 1) := by decide +kernel
theorem dX4_append_0 : decode cX4_append 0 = .ok (.aload_n 0, 1) := by decide +kernel
theorem dX4_append_1 : decode cX4_append 1 = .ok (.getfield 18, 3) := by decide +kernel
theorem dX4_append_4 : decode cX4_append 4 = .ok (.bipush 30, 2) := by decide +kernel
theorem dX4_append_6 : decode cX4_append 6 = .ok (.if_icmp .ge 23, 3) := by decide +kernel
theorem dX4_append_9 : decode cX4_append 9 = .ok (.aload_n 0, 1) := by decide +kernel
theorem dX4_append_10 : decode cX4_append 10 = .ok (.getfield 9, 3) := by decide +kernel
theorem dX4_append_13 : decode cX4_append 13 = .ok (.aload_n 0, 1) := by decide +kernel
theorem dX4_append_14 : decode cX4_append 14 = .ok (.getfield 18, 3) := by decide +kernel
theorem dX4_append_17 : decode cX4_append 17 = .ok (.iload_n 1, 1) := by decide +kernel
theorem dX4_append_18 : decode cX4_append 18 = .ok (.iastore, 1) := by decide +kernel
theorem dX4_append_19 : decode cX4_append 19 = .ok (.aload_n 0, 1) := by decide +kernel
theorem dX4_append_20 : decode cX4_append 20 = .ok (.dup, 1) := by decide +kernel
theorem dX4_append_21 : decode cX4_append 21 = .ok (.getfield 18, 3) := by decide +kernel
theorem dX4_append_24 : decode cX4_append 24 = .ok (.iconst 1, 1) := by decide +kernel
theorem dX4_append_25 : decode cX4_append 25 = .ok (.iadd, 1) := by decide +kernel
theorem dX4_append_26 : decode cX4_append 26 = .ok (.putfield 18, 3) := by decide +kernel
theorem dX4_append_29 : decode cX4_append 29 = .ok (.return_, 1) := by decide +kernel
set_option maxRecDepth 20000 in
theorem ggX4_heightIn_J9_floorMod_7cf53 : GoodIn wsX4_heightIn wsJ9_floorMod_7cf53 := goodIn_r _ [6] (by decide +kernel) (by decide +kernel)
set_option maxRecDepth 20000 in
theorem gX4_heightIn_J9_floorMod_7cf53 : GoodIn wsX4_heightIn (va_wsS RX4 28 yJ9_floorMod_7cf53 wsJ9_floorMod_7cf53) := goodIn_app (goodIn_of _ (by decide +kernel)) ggX4_heightIn_J9_floorMod_7cf53
theorem dX4_heightIn_0 : decode cX4_heightIn 0 = .ok (.aload_n 0, 1) := by decide +kernel
theorem dX4_heightIn_1 : decode cX4_heightIn 1 = .ok (.getfield 18, 3) := by decide +kernel
theorem dX4_heightIn_4 : decode cX4_heightIn 4 = .ok (.iconst 1, 1) := by decide +kernel
theorem dX4_heightIn_5 : decode cX4_heightIn 5 = .ok (.if_icmp .ge 5, 3) := by decide +kernel
theorem dX4_heightIn_8 : decode cX4_heightIn 8 = .ok (.iconst 0, 1) := by decide +kernel
theorem dX4_heightIn_9 : decode cX4_heightIn 9 = .ok (.ireturn, 1) := by decide +kernel
theorem dX4_heightIn_10 : decode cX4_heightIn 10 = .ok (.aload_n 0, 1) := by decide +kernel
theorem dX4_heightIn_11 : decode cX4_heightIn 11 = .ok (.getfield 9, 3) := by decide +kernel
theorem dX4_heightIn_14 : decode cX4_heightIn 14 = .ok (.iload_n 1, 1) := by decide +kernel
theorem dX4_heightIn_15 : decode cX4_heightIn 15 = .ok (.aload_n 0, 1) := by decide +kernel
theorem dX4_heightIn_16 : decode cX4_heightIn 16 = .ok (.getfield 18, 3) := by decide +kernel
theorem dX4_heightIn_19 : decode cX4_heightIn 19 = .ok (.invokestatic 28, 3) := by decide +kernel
theorem dX4_heightIn_22 : decode cX4_heightIn 22 = .ok (.iaload, 1) := by decide +kernel
theorem dX4_heightIn_23 : decode cX4_heightIn 23 = .ok (.ireturn, 1) := by decide +kernel
theorem dJ9_floorMod_7cf53_0 : decode cJ9_floorMod_7cf53 0 = .ok (.iload_n 0, 1) := by decide +kernel
theorem dJ9_floorMod_7cf53_1 : decode cJ9_floorMod_7cf53 1 = .ok (.iload_n 1, 1) := by decide +kernel
theorem dJ9_floorMod_7cf53_2 : decode cJ9_floorMod_7cf53 2 = .ok (.irem, 1) := by decide +kernel
theorem dJ9_floorMod_7cf53_3 : decode cJ9_floorMod_7cf53 3 = .ok (.istore_n 2, 1) := by decide +kernel
theorem dJ9_floorMod_7cf53_4 : decode cJ9_floorMod_7cf53 4 = .ok (.iload_n 0, 1) := by decide +kernel
theorem dJ9_floorMod_7cf53_5 : decode cJ9_floorMod_7cf53 5 = .ok (.iload_n 1, 1) := by decide +kernel
theorem dJ9_floorMod_7cf53_6 : decode cJ9_floorMod_7cf53 6 = .ok (.ixor, 1) := by decide +kernel
theorem dJ9_floorMod_7cf53_7 : decode cJ9_floorMod_7cf53 7 = .ok (.ifCond .ge 11, 3) := by decide +kernel
theorem dJ9_floorMod_7cf53_10 : decode cJ9_floorMod_7cf53 10 = .ok (.iload_n 2, 1) := by decide +kernel
theorem dJ9_floorMod_7cf53_11 : decode cJ9_floorMod_7cf53 11 = .ok (.ifCond .eq 7, 3) := by decide +kernel
theorem dJ9_floorMod_7cf53_14 : decode cJ9_floorMod_7cf53 14 = .ok (.iload_n 2, 1) := by decide +kernel
theorem dJ9_floorMod_7cf53_15 : decode cJ9_floorMod_7cf53 15 = .ok (.iload_n 1, 1) := by decide +kernel
theorem dJ9_floorMod_7cf53_16 : decode cJ9_floorMod_7cf53 16 = .ok (.iadd, 1) := by decide +kernel
theorem dJ9_floorMod_7cf53_17 : decode cJ9_floorMod_7cf53 17 = .ok (.ireturn, 1) := by decide +kernel
theorem dJ9_floorMod_7cf53_18 : decode cJ9_floorMod_7cf53 18 = .ok (.iload_n 2, 1) := by decide +kernel
theorem dJ9_floorMod_7cf53_19 : decode cJ9_floorMod_7cf53 19 = .ok (.ireturn, 1) := by decide +kernel
theorem dJ9_abs_0f7a4_0 : decode cJ9_abs_0f7a4 0 = .ok (.iload_n 0, 1) := by decide +kernel
theorem dJ9_abs_0f7a4_1 : decode cJ9_abs_0f7a4 1 = .ok (.ifCond .ge 8, 3) := by decide +kernel
theorem dJ9_abs_0f7a4_4 : decode cJ9_abs_0f7a4 4 = .ok (.iload_n 0, 1) := by decide +kernel
theorem dJ9_abs_0f7a4_5 : decode cJ9_abs_0f7a4 5 = .ok (.ineg, 1) := by decide +kernel
theorem dJ9_abs_0f7a4_6 : decode cJ9_abs_0f7a4 6 = .ok (.goto 4, 3) := by decide +kernel
theorem dJ9_abs_0f7a4_9 : decode cJ9_abs_0f7a4 9 = .ok (.iload_n 0, 1) := by decide +kernel
theorem dJ9_abs_0f7a4_10 : decode cJ9_abs_0f7a4 10 = .ok (.ireturn, 1) := by decide +kernel
theorem dJ9_max_7cf53_0 : decode cJ9_max_7cf53 0 = .ok (.iload_n 0, 1) := by decide +kernel
theorem dJ9_max_7cf53_1 : decode cJ9_max_7cf53 1 = .ok (.iload_n 1, 1) := by decide +kernel
theorem dJ9_max_7cf53_2 : decode cJ9_max_7cf53 2 = .ok (.if_icmp .lt 7, 3) := by decide +kernel
theorem dJ9_max_7cf53_5 : decode cJ9_max_7cf53 5 = .ok (.iload_n 0, 1) := by decide +kernel
theorem dJ9_max_7cf53_6 : decode cJ9_max_7cf53 6 = .ok (.goto 4, 3) := by decide +kernel
theorem dJ9_max_7cf53_9 : decode cJ9_max_7cf53 9 = .ok (.iload_n 1, 1) := by decide +kernel
theorem dJ9_max_7cf53_10 : decode cJ9_max_7cf53 10 = .ok (.ireturn, 1) := by decide +kernel
