theorem dX3_init_0 : decode cX3_init 0 = .ok (.aload_n 0, 1) := by decide +kernel
theorem dX3_init_1 : decode cX3_init 1 = .ok (.invokespecial 3, 3) := by decide +kernel
theorem dX3_init_4 : decode cX3_init 4 = .ok (.aload_n 0, 1) := by decide +kernel
theorem dX3_init_5 : decode cX3_init 5 = .ok (.new 9, 3) := by decide +kernel
theorem dX3_init_8 : decode cX3_init 8 = .ok (.dup, 1) := by decide +kernel
theorem dX3_init_9 : decode cX3_init 9 = .ok (.invokespecial 11, 3) := by decide +kernel
theorem dX3_init_12 : decode cX3_init 12 = .ok (.putfield 12, 3) := by decide +kernel
theorem dX3_init_15 : decode cX3_init 15 = .ok (.aload_n 0, 1) := by decide +kernel
theorem dX3_init_16 : decode cX3_init 16 = .ok (.new 18, 3) := by decide +kernel
theorem dX3_init_19 : decode cX3_init 19 = .ok (.dup, 1) := by decide +kernel
theorem dX3_init_20 : decode cX3_init 20 = .ok (.invokespecial 20, 3) := by decide +kernel
theorem dX3_init_23 : decode cX3_init 23 = .ok (.putfield 21, 3) := by decide +kernel
theorem dX3_init_26 : decode cX3_init 26 = .ok (.aload_n 0, 1) := by decide +kernel
theorem dX3_init_27 : decode cX3_init 27 = .ok (.bipush 16, 2) := by decide +kernel
theorem dX3_init_29 : decode cX3_init 29 = .ok (.newarray .int, 2) := by decide +kernel
theorem dX3_init_31 : decode cX3_init 31 = .ok (.putfield 25, 3) := by decide +kernel
theorem dX3_init_34 : decode cX3_init 34 = .ok (.aload_n 0, 1) := by decide +kernel
theorem dX3_init_35 : decode cX3_init 35 = .ok (.iconst 0, 1) := by decide +kernel
theorem dX3_init_36 : decode cX3_init 36 = .ok (.putfield 29, 3) := by decide +kernel
theorem dX3_init_39 : decode cX3_init 39 = .ok (.aload_n 0, 1) := by decide +kernel
theorem dX3_init_40 : decode cX3_init 40 = .ok (.iconst 0, 1) := by decide +kernel
theorem dX3_init_41 : decode cX3_init 41 = .ok (.putfield 33, 3) := by decide +kernel
theorem dX3_init_44 : decode cX3_init 44 = .ok (.aload_n 0, 1) := by decide +kernel
theorem dX3_init_45 : decode cX3_init 45 = .ok (.iconst 0, 1) := by decide +kernel
theorem dX3_init_46 : decode cX3_init 46 = .ok (.putfield 36, 3) := by decide +kernel
theorem dX3_init_49 : decode cX3_init 49 = .ok (.aload_n 0, 1) := by decide +kernel
theorem dX3_init_50 : decode cX3_init 50 = .ok (.iconst 0, 1) := by decide +kernel
theorem dX3_init_51 : decode cX3_init 51 = .ok (.putfield 39, 3) := by decide +kernel
theorem dX3_init_54 : decode cX3_init 54 = .ok (.aload_n 0, 1) := by decide +kernel
theorem dX3_init_55 : decode cX3_init 55 = .ok (.iconst 0, 1) := by decide +kernel
theorem dX3_init_56 : decode cX3_init 56 = .ok (.putfield 42, 3) := by decide +kernel
theorem dX3_init_59 : decode cX3_init 59 = .ok (.aload_n 0, 1) := by decide +kernel
theorem dX3_init_60 : decode cX3_init 60 = .ok (.iconst (-1), 1) := by decide +kernel
theorem dX3_init_61 : decode cX3_init 61 = .ok (.putfield 45, 3) := by decide +kernel
theorem dX3_init_64 : decode cX3_init 64 = .ok (.aload_n 0, 1) := by decide +kernel
theorem dX3_init_65 : decode cX3_init 65 = .ok (.bipush 32, 2) := by decide +kernel
theorem dX3_init_67 : decode cX3_init 67 = .ok (.newarray .int, 2) := by decide +kernel
theorem dX3_init_69 : decode cX3_init 69 = .ok (.putfield 48, 3) := by decide +kernel
theorem dX3_init_72 : decode cX3_init 72 = .ok (.aload_n 0, 1) := by decide +kernel
theorem dX3_init_73 : decode cX3_init 73 = .ok (.bipush 16, 2) := by decide +kernel
theorem dX3_init_75 : decode cX3_init 75 = .ok (.newarray .int, 2) := by decide +kernel
theorem dX3_init_77 : decode cX3_init 77 = .ok (.putfield 51, 3) := by decide +kernel
theorem dX3_init_80 : decode cX3_init 80 = .ok (.aload_n 0, 1) := by decide +kernel
theorem dX3_init_81 : decode cX3_init 81 = .ok (.iconst 0, 1) := by decide +kernel
theorem dX3_init_82 : decode cX3_init 82 = .ok (.putfield 54, 3) := by decide +kernel
theorem dX3_init_85 : decode cX3_init 85 = .ok (.aload_n 0, 1) := by decide +kernel
theorem dX3_init_86 : decode cX3_init 86 = .ok (.iconst 0, 1) := by decide +kernel
theorem dX3_init_87 : decode cX3_init 87 = .ok (.putfield 57, 3) := by decide +kernel
theorem dX3_init_90 : decode cX3_init 90 = .ok (.aload_n 0, 1) := by decide +kernel
theorem dX3_init_91 : decode cX3_init 91 = .ok (.getfield 25, 3) := by decide +kernel
theorem dX3_init_94 : decode cX3_init 94 = .ok (.iconst (-1), 1) := by decide +kernel
theorem dX3_init_95 : decode cX3_init 95 = .ok (.invokestatic 60, 3) := by decide +kernel
theorem dX3_init_98 : decode cX3_init 98 = .ok (.return_, 1) := by decide +kernel
set_option maxRecDepth 20000 in
theorem ggX3_thingsIn_X1_carAt : GoodIn wsX3_thingsIn wsX1_carAt := goodIn_r _ [7, 8, 9, 32, 33, 34, 35] (by decide +kernel) (by decide +kernel)
set_option maxRecDepth 20000 in
theorem gX3_thingsIn_X1_carAt : GoodIn wsX3_thingsIn (wsV RX3 66 RX1 yX1_carAt wsX1_carAt) := goodIn_app (goodIn_of _ (by decide +kernel)) ggX3_thingsIn_X1_carAt
set_option maxRecDepth 20000 in
theorem ggX3_thingsIn_X0_things : GoodIn wsX3_thingsIn wsX0_things := goodIn_r _ [14, 15, 16, 17, 18, 36, 37, 38, 39, 40] (by decide +kernel) (by decide +kernel)
set_option maxRecDepth 20000 in
theorem gX3_thingsIn_X0_things : GoodIn wsX3_thingsIn (wsV RX3 70 RX0 yX0_things wsX0_things) := goodIn_app (goodIn_of _ (by decide +kernel)) ggX3_thingsIn_X0_things
theorem dX3_thingsIn_0 : decode cX3_thingsIn 0 = .ok (.iconst 0, 1) := by decide +kernel
theorem dX3_thingsIn_1 : decode cX3_thingsIn 1 = .ok (.istore_n 3, 1) := by decide +kernel
theorem dX3_thingsIn_2 : decode cX3_thingsIn 2 = .ok (.iconst 0, 1) := by decide +kernel
theorem dX3_thingsIn_3 : decode cX3_thingsIn 3 = .ok (.istore 4, 2) := by decide +kernel
theorem dX3_thingsIn_5 : decode cX3_thingsIn 5 = .ok (.iload 4, 2) := by decide +kernel
theorem dX3_thingsIn_7 : decode cX3_thingsIn 7 = .ok (.iload_n 2, 1) := by decide +kernel
theorem dX3_thingsIn_8 : decode cX3_thingsIn 8 = .ok (.if_icmp .ge 30, 3) := by decide +kernel
theorem dX3_thingsIn_11 : decode cX3_thingsIn 11 = .ok (.iload_n 3, 1) := by decide +kernel
theorem dX3_thingsIn_12 : decode cX3_thingsIn 12 = .ok (.aload_n 0, 1) := by decide +kernel
theorem dX3_thingsIn_13 : decode cX3_thingsIn 13 = .ok (.getfield 12, 3) := by decide +kernel
theorem dX3_thingsIn_16 : decode cX3_thingsIn 16 = .ok (.aload_n 0, 1) := by decide +kernel
theorem dX3_thingsIn_17 : decode cX3_thingsIn 17 = .ok (.getfield 21, 3) := by decide +kernel
theorem dX3_thingsIn_20 : decode cX3_thingsIn 20 = .ok (.iload_n 1, 1) := by decide +kernel
theorem dX3_thingsIn_21 : decode cX3_thingsIn 21 = .ok (.iload 4, 2) := by decide +kernel
theorem dX3_thingsIn_23 : decode cX3_thingsIn 23 = .ok (.iadd, 1) := by decide +kernel
theorem dX3_thingsIn_24 : decode cX3_thingsIn 24 = .ok (.invokevirtual 66, 3) := by decide +kernel
theorem dX3_thingsIn_27 : decode cX3_thingsIn 27 = .ok (.invokevirtual 70, 3) := by decide +kernel
theorem dX3_thingsIn_30 : decode cX3_thingsIn 30 = .ok (.iadd, 1) := by decide +kernel
theorem dX3_thingsIn_31 : decode cX3_thingsIn 31 = .ok (.istore_n 3, 1) := by decide +kernel
theorem dX3_thingsIn_32 : decode cX3_thingsIn 32 = .ok (.iinc 4 1, 3) := by decide +kernel
theorem dX3_thingsIn_35 : decode cX3_thingsIn 35 = .ok (.goto (-30), 3) := by decide +kernel
theorem dX3_thingsIn_38 : decode cX3_thingsIn 38 = .ok (.iload_n 3, 1) := by decide +kernel
theorem dX3_thingsIn_39 : decode cX3_thingsIn 39 = .ok (.ireturn, 1) := by decide +kernel
set_option maxRecDepth 20000 in
theorem ggX3_nextRemembered_X1_indexOf : GoodIn wsX3_nextRemembered wsX1_indexOf := goodIn_r _ [7, 8, 9, 41, 42, 43, 44] (by decide +kernel) (by decide +kernel)
set_option maxRecDepth 20000 in
theorem gX3_nextRemembered_X1_indexOf : GoodIn wsX3_nextRemembered (wsV RX3 73 RX1 yX1_indexOf wsX1_indexOf) := goodIn_app (goodIn_of _ (by decide +kernel)) ggX3_nextRemembered_X1_indexOf
set_option maxRecDepth 20000 in
theorem ggX3_nextRemembered_X0_nextReference : GoodIn wsX3_nextRemembered wsX0_nextReference := goodIn_r _ [14, 15, 16, 45, 46, 47, 48, 49] (by decide +kernel) (by decide +kernel)
set_option maxRecDepth 20000 in
theorem gX3_nextRemembered_X0_nextReference : GoodIn wsX3_nextRemembered (wsV RX3 76 RX0 yX0_nextReference wsX0_nextReference) := goodIn_app (goodIn_of _ (by decide +kernel)) ggX3_nextRemembered_X0_nextReference
set_option maxRecDepth 20000 in
theorem ggX3_nextRemembered_X0_at : GoodIn wsX3_nextRemembered wsX0_at := goodIn_r _ [20, 21, 45, 46, 47, 48, 49] (by decide +kernel) (by decide +kernel)
set_option maxRecDepth 20000 in
theorem gX3_nextRemembered_X0_at : GoodIn wsX3_nextRemembered (wsV RX3 79 RX0 yX0_at wsX0_at) := goodIn_app (goodIn_of _ (by decide +kernel)) ggX3_nextRemembered_X0_at
set_option maxRecDepth 20000 in
theorem ggX3_nextRemembered_X4_carOf : GoodIn wsX3_nextRemembered wsX4_carOf := goodIn_r _ [24, 25, 26, 23, 27] (by decide +kernel) (by decide +kernel)
set_option maxRecDepth 20000 in
theorem gX3_nextRemembered_X4_carOf_n82 : GoodIn wsX3_nextRemembered (wsX4_carOf) := ggX3_nextRemembered_X4_carOf
theorem dX3_nextRemembered_0 : decode cX3_nextRemembered 0 = .ok (.aload_n 0, 1) := by decide +kernel
theorem dX3_nextRemembered_1 : decode cX3_nextRemembered 1 = .ok (.getfield 21, 3) := by decide +kernel
theorem dX3_nextRemembered_4 : decode cX3_nextRemembered 4 = .ok (.iload_n 1, 1) := by decide +kernel
theorem dX3_nextRemembered_5 : decode cX3_nextRemembered 5 = .ok (.invokevirtual 73, 3) := by decide +kernel
theorem dX3_nextRemembered_8 : decode cX3_nextRemembered 8 = .ok (.istore_n 3, 1) := by decide +kernel
theorem dX3_nextRemembered_9 : decode cX3_nextRemembered 9 = .ok (.aload_n 0, 1) := by decide +kernel
theorem dX3_nextRemembered_10 : decode cX3_nextRemembered 10 = .ok (.getfield 12, 3) := by decide +kernel
theorem dX3_nextRemembered_13 : decode cX3_nextRemembered 13 = .ok (.iload_n 2, 1) := by decide +kernel
theorem dX3_nextRemembered_14 : decode cX3_nextRemembered 14 = .ok (.invokevirtual 76, 3) := by decide +kernel
theorem dX3_nextRemembered_17 : decode cX3_nextRemembered 17 = .ok (.istore 4, 2) := by decide +kernel
theorem dX3_nextRemembered_19 : decode cX3_nextRemembered 19 = .ok (.iload 4, 2) := by decide +kernel
theorem dX3_nextRemembered_21 : decode cX3_nextRemembered 21 = .ok (.sipush 1280, 3) := by decide +kernel
theorem dX3_nextRemembered_24 : decode cX3_nextRemembered 24 = .ok (.if_icmp .ge 54, 3) := by decide +kernel
theorem dX3_nextRemembered_27 : decode cX3_nextRemembered 27 = .ok (.aload_n 0, 1) := by decide +kernel
theorem dX3_nextRemembered_28 : decode cX3_nextRemembered 28 = .ok (.getfield 12, 3) := by decide +kernel
theorem dX3_nextRemembered_31 : decode cX3_nextRemembered 31 = .ok (.iload 4, 2) := by decide +kernel
theorem dX3_nextRemembered_33 : decode cX3_nextRemembered 33 = .ok (.invokevirtual 79, 3) := by decide +kernel
theorem dX3_nextRemembered_36 : decode cX3_nextRemembered 36 = .ok (.invokestatic 82, 3) := by decide +kernel
theorem dX3_nextRemembered_39 : decode cX3_nextRemembered 39 = .ok (.iload_n 1, 1) := by decide +kernel
theorem dX3_nextRemembered_40 : decode cX3_nextRemembered 40 = .ok (.if_icmp .ne 22, 3) := by decide +kernel
theorem dX3_nextRemembered_43 : decode cX3_nextRemembered 43 = .ok (.aload_n 0, 1) := by decide +kernel
theorem dX3_nextRemembered_44 : decode cX3_nextRemembered 44 = .ok (.getfield 21, 3) := by decide +kernel
theorem dX3_nextRemembered_47 : decode cX3_nextRemembered 47 = .ok (.iload 4, 2) := by decide +kernel
theorem dX3_nextRemembered_49 : decode cX3_nextRemembered 49 = .ok (.invokestatic 82, 3) := by decide +kernel
theorem dX3_nextRemembered_52 : decode cX3_nextRemembered 52 = .ok (.invokevirtual 73, 3) := by decide +kernel
theorem dX3_nextRemembered_55 : decode cX3_nextRemembered 55 = .ok (.iload_n 3, 1) := by decide +kernel
theorem dX3_nextRemembered_56 : decode cX3_nextRemembered 56 = .ok (.if_icmp .le 6, 3) := by decide +kernel
theorem dX3_nextRemembered_59 : decode cX3_nextRemembered 59 = .ok (.iload 4, 2) := by decide +kernel
theorem dX3_nextRemembered_61 : decode cX3_nextRemembered 61 = .ok (.ireturn, 1) := by decide +kernel
theorem dX3_nextRemembered_62 : decode cX3_nextRemembered 62 = .ok (.aload_n 0, 1) := by decide +kernel
theorem dX3_nextRemembered_63 : decode cX3_nextRemembered 63 = .ok (.getfield 12, 3) := by decide +kernel
theorem dX3_nextRemembered_66 : decode cX3_nextRemembered 66 = .ok (.iload 4, 2) := by decide +kernel
theorem dX3_nextRemembered_68 : decode cX3_nextRemembered 68 = .ok (.iconst 1, 1) := by decide +kernel
theorem dX3_nextRemembered_69 : decode cX3_nextRemembered 69 = .ok (.iadd, 1) := by decide +kernel
theorem dX3_nextRemembered_70 : decode cX3_nextRemembered 70 = .ok (.invokevirtual 76, 3) := by decide +kernel
theorem dX3_nextRemembered_73 : decode cX3_nextRemembered 73 = .ok (.istore 4, 2) := by decide +kernel
theorem dX3_nextRemembered_75 : decode cX3_nextRemembered 75 = .ok (.goto (-56), 3) := by decide +kernel
theorem dX3_nextRemembered_78 : decode cX3_nextRemembered 78 = .ok (.sipush 1280, 3) := by decide +kernel
theorem dX3_nextRemembered_81 : decode cX3_nextRemembered 81 = .ok (.ireturn, 1) := by decide +kernel
set_option maxRecDepth 20000 in
theorem ggX3_countRemembered_X3_nextRemembered : GoodIn wsX3_countRemembered wsX3_nextRemembered := goodIn_r _ [5, 6, 7, 8, 9, 10, 11, 12, 13, 14, 15, 16, 17, 18, 19, 20, 21, 22, 23, 24, 25, 26, 27, 28, 29, 30, 31, 32, 33, 34, 35, 36, 37, 38, 39, 40, 41, 42, 43, 44, 45, 46, 47, 48, 49, 50, 51, 52, 53, 54] (by decide +kernel) (by decide +kernel)
set_option maxRecDepth 20000 in
theorem gX3_countRemembered_X3_nextRemembered : GoodIn wsX3_countRemembered (wsV RX3 85 RX3 yX3_nextRemembered wsX3_nextRemembered) := goodIn_app (goodIn_of _ (by decide +kernel)) ggX3_countRemembered_X3_nextRemembered
theorem dX3_countRemembered_0 : decode cX3_countRemembered 0 = .ok (.iconst 0, 1) := by decide +kernel
theorem dX3_countRemembered_1 : decode cX3_countRemembered 1 = .ok (.istore_n 2, 1) := by decide +kernel
theorem dX3_countRemembered_2 : decode cX3_countRemembered 2 = .ok (.aload_n 0, 1) := by decide +kernel
theorem dX3_countRemembered_3 : decode cX3_countRemembered 3 = .ok (.iload_n 1, 1) := by decide +kernel
theorem dX3_countRemembered_4 : decode cX3_countRemembered 4 = .ok (.iconst 0, 1) := by decide +kernel
theorem dX3_countRemembered_5 : decode cX3_countRemembered 5 = .ok (.invokevirtual 85, 3) := by decide +kernel
theorem dX3_countRemembered_8 : decode cX3_countRemembered 8 = .ok (.istore_n 3, 1) := by decide +kernel
theorem dX3_countRemembered_9 : decode cX3_countRemembered 9 = .ok (.iload_n 3, 1) := by decide +kernel
theorem dX3_countRemembered_10 : decode cX3_countRemembered 10 = .ok (.sipush 1280, 3) := by decide +kernel
theorem dX3_countRemembered_13 : decode cX3_countRemembered 13 = .ok (.if_icmp .ge 18, 3) := by decide +kernel
theorem dX3_countRemembered_16 : decode cX3_countRemembered 16 = .ok (.iinc 2 1, 3) := by decide +kernel
theorem dX3_countRemembered_19 : decode cX3_countRemembered 19 = .ok (.aload_n 0, 1) := by decide +kernel
theorem dX3_countRemembered_20 : decode cX3_countRemembered 20 = .ok (.iload_n 1, 1) := by decide +kernel
theorem dX3_countRemembered_21 : decode cX3_countRemembered 21 = .ok (.iload_n 3, 1) := by decide +kernel
theorem dX3_countRemembered_22 : decode cX3_countRemembered 22 = .ok (.iconst 1, 1) := by decide +kernel
theorem dX3_countRemembered_23 : decode cX3_countRemembered 23 = .ok (.iadd, 1) := by decide +kernel
theorem dX3_countRemembered_24 : decode cX3_countRemembered 24 = .ok (.invokevirtual 85, 3) := by decide +kernel
theorem dX3_countRemembered_27 : decode cX3_countRemembered 27 = .ok (.istore_n 3, 1) := by decide +kernel
theorem dX3_countRemembered_28 : decode cX3_countRemembered 28 = .ok (.goto (-19), 3) := by decide +kernel
theorem dX3_countRemembered_31 : decode cX3_countRemembered 31 = .ok (.iload_n 2, 1) := by decide +kernel
theorem dX3_countRemembered_32 : decode cX3_countRemembered 32 = .ok (.ireturn, 1) := by decide +kernel
set_option maxRecDepth 20000 in
theorem ggX3_lastHasRoom_X1_carAt : GoodIn wsX3_lastHasRoom wsX1_carAt := goodIn_r _ [7, 8, 9, 29, 30, 31, 32] (by decide +kernel) (by decide +kernel)
set_option maxRecDepth 20000 in
theorem gX3_lastHasRoom_X1_carAt : GoodIn wsX3_lastHasRoom (wsV RX3 66 RX1 yX1_carAt wsX1_carAt) := goodIn_app (goodIn_of _ (by decide +kernel)) ggX3_lastHasRoom_X1_carAt
set_option maxRecDepth 20000 in
theorem ggX3_lastHasRoom_X0_room : GoodIn wsX3_lastHasRoom wsX0_room := goodIn_r _ [14, 15, 33, 34, 35, 36, 37] (by decide +kernel) (by decide +kernel)
set_option maxRecDepth 20000 in
theorem gX3_lastHasRoom_X0_room : GoodIn wsX3_lastHasRoom (wsV RX3 92 RX0 yX0_room wsX0_room) := goodIn_app (goodIn_of _ (by decide +kernel)) ggX3_lastHasRoom_X0_room
theorem dX3_lastHasRoom_0 : decode cX3_lastHasRoom 0 = .ok (.aload_n 0, 1) := by decide +kernel
theorem dX3_lastHasRoom_1 : decode cX3_lastHasRoom 1 = .ok (.getfield 12, 3) := by decide +kernel
theorem dX3_lastHasRoom_4 : decode cX3_lastHasRoom 4 = .ok (.aload_n 0, 1) := by decide +kernel
theorem dX3_lastHasRoom_5 : decode cX3_lastHasRoom 5 = .ok (.getfield 21, 3) := by decide +kernel
theorem dX3_lastHasRoom_8 : decode cX3_lastHasRoom 8 = .ok (.aload_n 0, 1) := by decide +kernel
theorem dX3_lastHasRoom_9 : decode cX3_lastHasRoom 9 = .ok (.getfield 21, 3) := by decide +kernel
theorem dX3_lastHasRoom_12 : decode cX3_lastHasRoom 12 = .ok (.getfield 89, 3) := by decide +kernel
theorem dX3_lastHasRoom_15 : decode cX3_lastHasRoom 15 = .ok (.iconst 1, 1) := by decide +kernel
theorem dX3_lastHasRoom_16 : decode cX3_lastHasRoom 16 = .ok (.isub, 1) := by decide +kernel
theorem dX3_lastHasRoom_17 : decode cX3_lastHasRoom 17 = .ok (.invokevirtual 66, 3) := by decide +kernel
theorem dX3_lastHasRoom_20 : decode cX3_lastHasRoom 20 = .ok (.invokevirtual 92, 3) := by decide +kernel
theorem dX3_lastHasRoom_23 : decode cX3_lastHasRoom 23 = .ok (.iload_n 1, 1) := by decide +kernel
theorem dX3_lastHasRoom_24 : decode cX3_lastHasRoom 24 = .ok (.if_icmp .lt 7, 3) := by decide +kernel
theorem dX3_lastHasRoom_27 : decode cX3_lastHasRoom 27 = .ok (.iconst 1, 1) := by decide +kernel
theorem dX3_lastHasRoom_28 : decode cX3_lastHasRoom 28 = .ok (.goto 4, 3) := by decide +kernel
theorem dX3_lastHasRoom_31 : decode cX3_lastHasRoom 31 = .ok (.iconst 0, 1) := by decide +kernel
theorem dX3_lastHasRoom_32 : decode cX3_lastHasRoom 32 = .ok (.ireturn, 1) := by decide +kernel
set_option maxRecDepth 20000 in
theorem ggX3_takesNew_X3_lastHasRoom : GoodIn wsX3_takesNew wsX3_lastHasRoom := goodIn_r _ [6, 7, 1, 8, 9, 10, 11, 12, 13, 14, 15, 16, 17, 18, 19, 20, 25, 26, 27, 28, 29, 30, 31, 32, 33, 34, 35, 36, 37, 38, 39, 40, 41, 42, 43, 44, 45, 46] (by decide +kernel) (by decide +kernel)
set_option maxRecDepth 20000 in
theorem gX3_takesNew_X3_lastHasRoom : GoodIn wsX3_takesNew (wsV RX3 95 RX3 yX3_lastHasRoom wsX3_lastHasRoom) := goodIn_app (goodIn_of _ (by decide +kernel)) ggX3_takesNew_X3_lastHasRoom
set_option maxRecDepth 20000 in
theorem ggX3_takesNew_X1_countFree : GoodIn wsX3_takesNew wsX1_countFree := goodIn_r _ [24, 13, 38, 39, 40, 41] (by decide +kernel) (by decide +kernel)
set_option maxRecDepth 20000 in
theorem gX3_takesNew_X1_countFree : GoodIn wsX3_takesNew (wsV RX3 99 RX1 yX1_countFree wsX1_countFree) := goodIn_app (goodIn_of _ (by decide +kernel)) ggX3_takesNew_X1_countFree
theorem dX3_takesNew_0 : decode cX3_takesNew 0 = .ok (.aload_n 0, 1) := by decide +kernel
theorem dX3_takesNew_1 : decode cX3_takesNew 1 = .ok (.iload_n 1, 1) := by decide +kernel
theorem dX3_takesNew_2 : decode cX3_takesNew 2 = .ok (.invokevirtual 95, 3) := by decide +kernel
theorem dX3_takesNew_5 : decode cX3_takesNew 5 = .ok (.ifCond .ne 14, 3) := by decide +kernel
theorem dX3_takesNew_8 : decode cX3_takesNew 8 = .ok (.aload_n 0, 1) := by decide +kernel
theorem dX3_takesNew_9 : decode cX3_takesNew 9 = .ok (.getfield 21, 3) := by decide +kernel
theorem dX3_takesNew_12 : decode cX3_takesNew 12 = .ok (.invokevirtual 99, 3) := by decide +kernel
theorem dX3_takesNew_15 : decode cX3_takesNew 15 = .ok (.iconst 2, 1) := by decide +kernel
theorem dX3_takesNew_16 : decode cX3_takesNew 16 = .ok (.if_icmp .lt 7, 3) := by decide +kernel
theorem dX3_takesNew_19 : decode cX3_takesNew 19 = .ok (.iconst 1, 1) := by decide +kernel
theorem dX3_takesNew_20 : decode cX3_takesNew 20 = .ok (.goto 4, 3) := by decide +kernel
theorem dX3_takesNew_23 : decode cX3_takesNew 23 = .ok (.iconst 0, 1) := by decide +kernel
theorem dX3_takesNew_24 : decode cX3_takesNew 24 = .ok (.ireturn, 1) := by decide +kernel
set_option maxRecDepth 20000 in
theorem ggX3_carForNew_X3_lastHasRoom : GoodIn wsX3_carForNew wsX3_lastHasRoom := goodIn_r _ [6, 7, 1, 8, 9, 10, 11, 12, 13, 14, 15, 16, 17, 18, 19, 20, 53, 54, 55, 56, 57, 58, 59, 60, 61, 62, 63, 64, 65, 66, 67, 68, 69, 70, 71, 72, 73, 74] (by decide +kernel) (by decide +kernel)
set_option maxRecDepth 20000 in
theorem gX3_carForNew_X3_lastHasRoom : GoodIn wsX3_carForNew (wsV RX3 95 RX3 yX3_lastHasRoom wsX3_lastHasRoom) := goodIn_app (goodIn_of _ (by decide +kernel)) ggX3_carForNew_X3_lastHasRoom
set_option maxRecDepth 20000 in
theorem ggX3_carForNew_X1_carAt : GoodIn wsX3_carForNew wsX1_carAt := goodIn_r _ [12, 13, 14, 66, 67, 68, 69] (by decide +kernel) (by decide +kernel)
set_option maxRecDepth 20000 in
theorem gX3_carForNew_X1_carAt : GoodIn wsX3_carForNew (wsV RX3 66 RX1 yX1_carAt wsX1_carAt) := goodIn_app (goodIn_of _ (by decide +kernel)) ggX3_carForNew_X1_carAt
set_option maxRecDepth 20000 in
theorem ggX3_carForNew_X1_lastTrain : GoodIn wsX3_carForNew wsX1_lastTrain := goodIn_r _ [24, 13, 25, 9, 10, 11, 12, 14, 26, 27, 28, 29, 30, 66, 67, 68, 69] (by decide +kernel) (by decide +kernel)
set_option maxRecDepth 20000 in
theorem gX3_carForNew_X1_lastTrain : GoodIn wsX3_carForNew (wsV RX3 103 RX1 yX1_lastTrain wsX1_lastTrain) := goodIn_app (goodIn_of _ (by decide +kernel)) ggX3_carForNew_X1_lastTrain
set_option maxRecDepth 20000 in
theorem ggX3_carForNew_X1_carsOf : GoodIn wsX3_carForNew wsX1_carsOf := goodIn_r _ [34, 13, 14, 26, 27, 28, 11, 29, 30, 66, 67, 68, 69] (by decide +kernel) (by decide +kernel)
set_option maxRecDepth 20000 in
theorem gX3_carForNew_X1_carsOf : GoodIn wsX3_carForNew (wsV RX3 106 RX1 yX1_carsOf wsX1_carsOf) := goodIn_app (goodIn_of _ (by decide +kernel)) ggX3_carForNew_X1_carsOf
set_option maxRecDepth 20000 in
theorem ggX3_carForNew_X1_addTrain : GoodIn wsX3_carForNew wsX1_addTrain := goodIn_r _ [38, 39, 40, 41, 42, 11, 43, 13, 44, 45, 46, 47, 14, 30, 48, 49, 50, 51, 26, 27, 28, 29, 66, 67, 68, 69] (by decide +kernel) (by decide +kernel)
set_option maxRecDepth 20000 in
theorem gX3_carForNew_X1_addTrain : GoodIn wsX3_carForNew (wsV RX3 109 RX1 yX1_addTrain wsX1_addTrain) := goodIn_app (goodIn_of _ (by decide +kernel)) ggX3_carForNew_X1_addTrain
set_option maxRecDepth 20000 in
theorem ggX3_carForNew_X1_addCar : GoodIn wsX3_carForNew wsX1_addCar := goodIn_r _ [47, 13, 14, 30, 48, 49, 50, 11, 51, 26, 27, 28, 29, 66, 67, 68, 69] (by decide +kernel) (by decide +kernel)
set_option maxRecDepth 20000 in
theorem gX3_carForNew_X1_addCar : GoodIn wsX3_carForNew (wsV RX3 112 RX1 yX1_addCar wsX1_addCar) := goodIn_app (goodIn_of _ (by decide +kernel)) ggX3_carForNew_X1_addCar
theorem dX3_carForNew_0 : decode cX3_carForNew 0 = .ok (.aload_n 0, 1) := by decide +kernel
theorem dX3_carForNew_1 : decode cX3_carForNew 1 = .ok (.iload_n 1, 1) := by decide +kernel
theorem dX3_carForNew_2 : decode cX3_carForNew 2 = .ok (.invokevirtual 95, 3) := by decide +kernel
theorem dX3_carForNew_5 : decode cX3_carForNew 5 = .ok (.ifCond .eq 20, 3) := by decide +kernel
theorem dX3_carForNew_8 : decode cX3_carForNew 8 = .ok (.aload_n 0, 1) := by decide +kernel
theorem dX3_carForNew_9 : decode cX3_carForNew 9 = .ok (.getfield 21, 3) := by decide +kernel
theorem dX3_carForNew_12 : decode cX3_carForNew 12 = .ok (.aload_n 0, 1) := by decide +kernel
theorem dX3_carForNew_13 : decode cX3_carForNew 13 = .ok (.getfield 21, 3) := by decide +kernel
theorem dX3_carForNew_16 : decode cX3_carForNew 16 = .ok (.getfield 89, 3) := by decide +kernel
theorem dX3_carForNew_19 : decode cX3_carForNew 19 = .ok (.iconst 1, 1) := by decide +kernel
theorem dX3_carForNew_20 : decode cX3_carForNew 20 = .ok (.isub, 1) := by decide +kernel
theorem dX3_carForNew_21 : decode cX3_carForNew 21 = .ok (.invokevirtual 66, 3) := by decide +kernel
theorem dX3_carForNew_24 : decode cX3_carForNew 24 = .ok (.ireturn, 1) := by decide +kernel
theorem dX3_carForNew_25 : decode cX3_carForNew 25 = .ok (.aload_n 0, 1) := by decide +kernel
theorem dX3_carForNew_26 : decode cX3_carForNew 26 = .ok (.getfield 21, 3) := by decide +kernel
theorem dX3_carForNew_29 : decode cX3_carForNew 29 = .ok (.invokevirtual 103, 3) := by decide +kernel
theorem dX3_carForNew_32 : decode cX3_carForNew 32 = .ok (.istore_n 3, 1) := by decide +kernel
theorem dX3_carForNew_33 : decode cX3_carForNew 33 = .ok (.aload_n 0, 1) := by decide +kernel
theorem dX3_carForNew_34 : decode cX3_carForNew 34 = .ok (.getfield 21, 3) := by decide +kernel
theorem dX3_carForNew_37 : decode cX3_carForNew 37 = .ok (.getfield 89, 3) := by decide +kernel
theorem dX3_carForNew_40 : decode cX3_carForNew 40 = .ok (.ifCond .eq 15, 3) := by decide +kernel
theorem dX3_carForNew_43 : decode cX3_carForNew 43 = .ok (.aload_n 0, 1) := by decide +kernel
theorem dX3_carForNew_44 : decode cX3_carForNew 44 = .ok (.getfield 21, 3) := by decide +kernel
theorem dX3_carForNew_47 : decode cX3_carForNew 47 = .ok (.iload_n 3, 1) := by decide +kernel
theorem dX3_carForNew_48 : decode cX3_carForNew 48 = .ok (.invokevirtual 106, 3) := by decide +kernel
theorem dX3_carForNew_51 : decode cX3_carForNew 51 = .ok (.iload_n 2, 1) := by decide +kernel
theorem dX3_carForNew_52 : decode cX3_carForNew 52 = .ok (.if_icmp .lt 11, 3) := by decide +kernel
theorem dX3_carForNew_55 : decode cX3_carForNew 55 = .ok (.aload_n 0, 1) := by decide +kernel
theorem dX3_carForNew_56 : decode cX3_carForNew 56 = .ok (.getfield 21, 3) := by decide +kernel
theorem dX3_carForNew_59 : decode cX3_carForNew 59 = .ok (.invokevirtual 109, 3) := by decide +kernel
theorem dX3_carForNew_62 : decode cX3_carForNew 62 = .ok (.ireturn, 1) := by decide +kernel
theorem dX3_carForNew_63 : decode cX3_carForNew 63 = .ok (.aload_n 0, 1) := by decide +kernel
theorem dX3_carForNew_64 : decode cX3_carForNew 64 = .ok (.getfield 21, 3) := by decide +kernel
theorem dX3_carForNew_67 : decode cX3_carForNew 67 = .ok (.iload_n 3, 1) := by decide +kernel
theorem dX3_carForNew_68 : decode cX3_carForNew 68 = .ok (.invokevirtual 112, 3) := by decide +kernel
theorem dX3_carForNew_71 : decode cX3_carForNew 71 = .ok (.ireturn, 1) := by decide +kernel
set_option maxRecDepth 20000 in
theorem ggX3_canStep_X1_countFree : GoodIn wsX3_canStep wsX1_countFree := goodIn_r _ [6, 7, 21, 22, 23, 24] (by decide +kernel) (by decide +kernel)
set_option maxRecDepth 20000 in
theorem gX3_canStep_X1_countFree : GoodIn wsX3_canStep (wsV RX3 99 RX1 yX1_countFree wsX1_countFree) := goodIn_app (goodIn_of _ (by decide +kernel)) ggX3_canStep_X1_countFree
theorem dX3_canStep_0 : decode cX3_canStep 0 = .ok (.aload_n 0, 1) := by decide +kernel
theorem dX3_canStep_1 : decode cX3_canStep 1 = .ok (.getfield 21, 3) := by decide +kernel
theorem dX3_canStep_4 : decode cX3_canStep 4 = .ok (.getfield 89, 3) := by decide +kernel
theorem dX3_canStep_7 : decode cX3_canStep 7 = .ok (.ifCond .le 17, 3) := by decide +kernel
theorem dX3_canStep_10 : decode cX3_canStep 10 = .ok (.aload_n 0, 1) := by decide +kernel
theorem dX3_canStep_11 : decode cX3_canStep 11 = .ok (.getfield 21, 3) := by decide +kernel
theorem dX3_canStep_14 : decode cX3_canStep 14 = .ok (.invokevirtual 99, 3) := by decide +kernel
theorem dX3_canStep_17 : decode cX3_canStep 17 = .ok (.ifCond .le 7, 3) := by decide +kernel
theorem dX3_canStep_20 : decode cX3_canStep 20 = .ok (.iconst 1, 1) := by decide +kernel
theorem dX3_canStep_21 : decode cX3_canStep 21 = .ok (.goto 4, 3) := by decide +kernel
theorem dX3_canStep_24 : decode cX3_canStep 24 = .ok (.iconst 0, 1) := by decide +kernel
theorem dX3_canStep_25 : decode cX3_canStep 25 = .ok (.ireturn, 1) := by decide +kernel
set_option maxRecDepth 20000 in
theorem ggX3_doStep_X1_firstTrain : GoodIn wsX3_doStep wsX1_firstTrain := goodIn_r _ [11, 12, 13, 14, 10, 15, 16, 17, 18, 19, 20, 21, 22, 204, 205, 206, 207] (by decide +kernel) (by decide +kernel)
set_option maxRecDepth 20000 in
theorem gX3_doStep_X1_firstTrain : GoodIn wsX3_doStep (wsV RX3 115 RX1 yX1_firstTrain wsX1_firstTrain) := goodIn_app (goodIn_of _ (by decide +kernel)) ggX3_doStep_X1_firstTrain
set_option maxRecDepth 20000 in
theorem ggX3_doStep_X3_isReferredTo : GoodIn wsX3_doStep wsX3_isReferredTo := goodIn_r _ [27, 1, 28, 2, 29, 30, 31, 32, 33, 34, 35, 19, 20, 10, 21, 22, 36, 37, 38, 39, 40, 41, 42, 43, 44, 45, 46, 47, 191, 192, 193, 194, 195, 196, 197, 198, 199, 200, 201, 202, 203, 204, 205, 206, 207, 208, 209, 210, 211, 212] (by decide +kernel) (by decide +kernel)
set_option maxRecDepth 20000 in
theorem gX3_doStep_X3_isReferredTo : GoodIn wsX3_doStep (wsV RX3 118 RX3 yX3_isReferredTo wsX3_isReferredTo) := goodIn_app (goodIn_of _ (by decide +kernel)) ggX3_doStep_X3_isReferredTo
set_option maxRecDepth 20000 in
theorem ggX3_doStep_X3_startEmptying : GoodIn wsX3_doStep wsX3_startEmptying := goodIn_r _ [51, 1, 3, 52, 4, 53, 54, 13, 14, 10, 15, 16, 17, 55, 56, 57, 58, 191, 192, 193, 194, 195, 196, 197, 198, 199, 200, 201, 202, 203, 204, 205, 206, 207] (by decide +kernel) (by decide +kernel)
set_option maxRecDepth 20000 in
theorem gX3_doStep_X3_startEmptying : GoodIn wsX3_doStep (wsV RX3 121 RX3 yX3_startEmptying wsX3_startEmptying) := goodIn_app (goodIn_of _ (by decide +kernel)) ggX3_doStep_X3_startEmptying
set_option maxRecDepth 20000 in
theorem ggX3_doStep_X3_moveHeld : GoodIn wsX3_doStep wsX3_moveHeld := goodIn_r _ [62, 28, 1, 63, 64, 65, 26, 66, 3, 52, 29, 30, 31, 32, 33, 34, 67, 68, 69, 10, 70, 16, 12, 13, 14, 15, 17, 18, 19, 20, 21, 22, 71, 72, 73, 74, 75, 76, 77, 78, 79, 80, 81, 82, 83, 84, 85, 86, 87, 88, 89, 90, 91, 53, 4, 92, 2, 93, 94, 95, 96, 97, 98, 99, 100, 101, 39, 102, 103, 44, 45, 46, 47, 104, 105, 106, 107, 108, 109, 110, 111, 112, 113, 114, 115, 116, 117, 118, 119, 41, 120, 121, 54, 122, 123, 124, 125, 126, 127, 128, 129, 130, 131, 132, 133, 134, 135, 136, 137, 138, 139, 140, 141, 42, 142, 143, 144, 145, 146, 147, 148, 149, 150, 43, 35, 191, 192, 193, 194, 195, 196, 197, 198, 199, 200, 201, 202, 203, 204, 205, 206, 207, 208, 209, 210, 211, 212] (by decide +kernel) (by decide +kernel)
set_option maxRecDepth 20000 in
theorem gX3_doStep_X3_moveHeld : GoodIn wsX3_doStep (wsV RX3 124 RX3 yX3_moveHeld wsX3_moveHeld) := goodIn_app (goodIn_of _ (by decide +kernel)) ggX3_doStep_X3_moveHeld
set_option maxRecDepth 20000 in
theorem ggX3_doStep_X3_moveReferredTo : GoodIn wsX3_doStep wsX3_moveReferredTo := goodIn_r _ [154, 2, 1, 3, 36, 37, 38, 39, 40, 41, 42, 29, 30, 31, 32, 33, 34, 35, 19, 20, 10, 21, 22, 43, 44, 45, 46, 47, 88, 89, 90, 26, 91, 53, 4, 92, 93, 94, 95, 96, 52, 97, 98, 63, 64, 65, 66, 99, 100, 101, 102, 103, 104, 105, 106, 107, 108, 109, 110, 111, 16, 17, 18, 112, 113, 114, 115, 116, 117, 118, 119, 120, 77, 78, 79, 121, 81, 82, 83, 84, 85, 86, 87, 54, 13, 14, 15, 122, 123, 124, 125, 126, 127, 128, 129, 130, 131, 132, 133, 134, 135, 136, 137, 138, 139, 140, 141, 142, 143, 144, 145, 146, 147, 148, 149, 150, 191, 192, 193, 194, 195, 196, 197, 198, 199, 200, 201, 202, 203, 208, 209, 210, 211, 212, 204, 205, 206, 207] (by decide +kernel) (by decide +kernel)
set_option maxRecDepth 20000 in
theorem gX3_doStep_X3_moveReferredTo : GoodIn wsX3_doStep (wsV RX3 128 RX3 yX3_moveReferredTo wsX3_moveReferredTo) := goodIn_app (goodIn_of _ (by decide +kernel)) ggX3_doStep_X3_moveReferredTo
set_option maxRecDepth 20000 in
theorem ggX3_doStep_X0_things : GoodIn wsX3_doStep wsX0_things := goodIn_r _ [158, 142, 159, 30, 160, 208, 209, 210, 211, 212] (by decide +kernel) (by decide +kernel)
set_option maxRecDepth 20000 in
theorem gX3_doStep_X0_things : GoodIn wsX3_doStep (wsV RX3 70 RX0 yX0_things wsX0_things) := goodIn_app (goodIn_of _ (by decide +kernel)) ggX3_doStep_X0_things
set_option maxRecDepth 20000 in
theorem ggX3_doStep_X3_endEmptying : GoodIn wsX3_doStep wsX3_endEmptying := goodIn_r _ [164, 28, 2, 3, 1, 165, 166, 167, 26, 168, 52, 29, 30, 31, 32, 33, 34, 169, 170, 171, 39, 172, 47, 42, 41, 142, 159, 160, 36, 37, 38, 40, 43, 44, 45, 46, 173, 146, 147, 148, 174, 175, 176, 10, 177, 22, 16, 17, 12, 13, 14, 15, 191, 192, 193, 194, 195, 196, 197, 198, 199, 200, 201, 202, 203, 208, 209, 210, 211, 212, 204, 205, 206, 207] (by decide +kernel) (by decide +kernel)
set_option maxRecDepth 20000 in
theorem gX3_doStep_X3_endEmptying : GoodIn wsX3_doStep (wsV RX3 132 RX3 yX3_endEmptying wsX3_endEmptying) := goodIn_app (goodIn_of _ (by decide +kernel)) ggX3_doStep_X3_endEmptying
set_option maxRecDepth 20000 in
theorem ggX3_doStep_X3_dropFirstTrain : GoodIn wsX3_doStep wsX3_dropFirstTrain := goodIn_r _ [181, 1, 2, 182, 183, 184, 185, 10, 186, 16, 17, 18, 19, 20, 21, 22, 187, 188, 189, 26, 190, 54, 13, 14, 15, 155, 156, 157, 39, 158, 142, 159, 30, 160, 169, 170, 171, 172, 47, 42, 41, 174, 175, 176, 177, 12, 191, 192, 193, 194, 195, 196, 197, 198, 199, 200, 201, 202, 203, 204, 205, 206, 207, 208, 209, 210, 211, 212] (by decide +kernel) (by decide +kernel)
set_option maxRecDepth 20000 in
theorem gX3_doStep_X3_dropFirstTrain : GoodIn wsX3_doStep (wsV RX3 135 RX3 yX3_dropFirstTrain wsX3_dropFirstTrain) := goodIn_app (goodIn_of _ (by decide +kernel)) ggX3_doStep_X3_dropFirstTrain
theorem dX3_doStep_0 : decode cX3_doStep 0 = .ok (.aload_n 0, 1) := by decide +kernel
theorem dX3_doStep_1 : decode cX3_doStep 1 = .ok (.getfield 21, 3) := by decide +kernel
theorem dX3_doStep_4 : decode cX3_doStep 4 = .ok (.invokevirtual 115, 3) := by decide +kernel
theorem dX3_doStep_7 : decode cX3_doStep 7 = .ok (.istore_n 1, 1) := by decide +kernel
theorem dX3_doStep_8 : decode cX3_doStep 8 = .ok (.aload_n 0, 1) := by decide +kernel
theorem dX3_doStep_9 : decode cX3_doStep 9 = .ok (.iload_n 1, 1) := by decide +kernel
theorem dX3_doStep_10 : decode cX3_doStep 10 = .ok (.invokevirtual 118, 3) := by decide +kernel
theorem dX3_doStep_13 : decode cX3_doStep 13 = .ok (.ifCond .eq 48, 3) := by decide +kernel
theorem dX3_doStep_16 : decode cX3_doStep 16 = .ok (.aload_n 0, 1) := by decide +kernel
theorem dX3_doStep_17 : decode cX3_doStep 17 = .ok (.invokevirtual 121, 3) := by decide +kernel
theorem dX3_doStep_20 : decode cX3_doStep 20 = .ok (.aload_n 0, 1) := by decide +kernel
theorem dX3_doStep_21 : decode cX3_doStep 21 = .ok (.iload_n 1, 1) := by decide +kernel
theorem dX3_doStep_22 : decode cX3_doStep 22 = .ok (.invokevirtual 124, 3) := by decide +kernel
theorem dX3_doStep_25 : decode cX3_doStep 25 = .ok (.aload_n 0, 1) := by decide +kernel
theorem dX3_doStep_26 : decode cX3_doStep 26 = .ok (.iload_n 1, 1) := by decide +kernel
theorem dX3_doStep_27 : decode cX3_doStep 27 = .ok (.iconst 0, 1) := by decide +kernel
theorem dX3_doStep_28 : decode cX3_doStep 28 = .ok (.invokevirtual 128, 3) := by decide +kernel
theorem dX3_doStep_31 : decode cX3_doStep 31 = .ok (.aload_n 0, 1) := by decide +kernel
theorem dX3_doStep_32 : decode cX3_doStep 32 = .ok (.iload_n 1, 1) := by decide +kernel
theorem dX3_doStep_33 : decode cX3_doStep 33 = .ok (.iconst 1, 1) := by decide +kernel
theorem dX3_doStep_34 : decode cX3_doStep 34 = .ok (.invokevirtual 128, 3) := by decide +kernel
theorem dX3_doStep_37 : decode cX3_doStep 37 = .ok (.aload_n 0, 1) := by decide +kernel
theorem dX3_doStep_38 : decode cX3_doStep 38 = .ok (.getfield 12, 3) := by decide +kernel
theorem dX3_doStep_41 : decode cX3_doStep 41 = .ok (.aload_n 0, 1) := by decide +kernel
theorem dX3_doStep_42 : decode cX3_doStep 42 = .ok (.getfield 45, 3) := by decide +kernel
theorem dX3_doStep_45 : decode cX3_doStep 45 = .ok (.invokevirtual 70, 3) := by decide +kernel
theorem dX3_doStep_48 : decode cX3_doStep 48 = .ok (.aload_n 0, 1) := by decide +kernel
theorem dX3_doStep_49 : decode cX3_doStep 49 = .ok (.getfield 54, 3) := by decide +kernel
theorem dX3_doStep_52 : decode cX3_doStep 52 = .ok (.isub, 1) := by decide +kernel
theorem dX3_doStep_53 : decode cX3_doStep 53 = .ok (.istore_n 2, 1) := by decide +kernel
theorem dX3_doStep_54 : decode cX3_doStep 54 = .ok (.aload_n 0, 1) := by decide +kernel
theorem dX3_doStep_55 : decode cX3_doStep 55 = .ok (.invokevirtual 132, 3) := by decide +kernel
theorem dX3_doStep_58 : decode cX3_doStep 58 = .ok (.goto 9, 3) := by decide +kernel
theorem dX3_doStep_61 : decode cX3_doStep 61 = .ok (.aload_n 0, 1) := by decide +kernel
theorem dX3_doStep_62 : decode cX3_doStep 62 = .ok (.iload_n 1, 1) := by decide +kernel
theorem dX3_doStep_63 : decode cX3_doStep 63 = .ok (.invokevirtual 135, 3) := by decide +kernel
theorem dX3_doStep_66 : decode cX3_doStep 66 = .ok (.istore_n 2, 1) := by decide +kernel
theorem dX3_doStep_67 : decode cX3_doStep 67 = .ok (.aload_n 0, 1) := by decide +kernel
theorem dX3_doStep_68 : decode cX3_doStep 68 = .ok (.dup, 1) := by decide +kernel
theorem dX3_doStep_69 : decode cX3_doStep 69 = .ok (.getfield 29, 3) := by decide +kernel
theorem dX3_doStep_72 : decode cX3_doStep 72 = .ok (.iconst 1, 1) := by decide +kernel
theorem dX3_doStep_73 : decode cX3_doStep 73 = .ok (.iadd, 1) := by decide +kernel
theorem dX3_doStep_74 : decode cX3_doStep 74 = .ok (.putfield 29, 3) := by decide +kernel
theorem dX3_doStep_77 : decode cX3_doStep 77 = .ok (.aload_n 0, 1) := by decide +kernel
theorem dX3_doStep_78 : decode cX3_doStep 78 = .ok (.dup, 1) := by decide +kernel
theorem dX3_doStep_79 : decode cX3_doStep 79 = .ok (.getfield 36, 3) := by decide +kernel
theorem dX3_doStep_82 : decode cX3_doStep 82 = .ok (.iload_n 2, 1) := by decide +kernel
theorem dX3_doStep_83 : decode cX3_doStep 83 = .ok (.iadd, 1) := by decide +kernel
theorem dX3_doStep_84 : decode cX3_doStep 84 = .ok (.putfield 36, 3) := by decide +kernel
theorem dX3_doStep_87 : decode cX3_doStep 87 = .ok (.iload_n 2, 1) := by decide +kernel
theorem dX3_doStep_88 : decode cX3_doStep 88 = .ok (.ireturn, 1) := by decide +kernel
set_option maxRecDepth 20000 in
theorem ggX3_isReferredTo_X4_carOf : GoodIn wsX3_isReferredTo wsX4_carOf := goodIn_r _ [6, 7, 8, 5, 9] (by decide +kernel) (by decide +kernel)
set_option maxRecDepth 20000 in
theorem gX3_isReferredTo_X4_carOf_n82 : GoodIn wsX3_isReferredTo (wsX4_carOf) := ggX3_isReferredTo_X4_carOf
set_option maxRecDepth 20000 in
theorem ggX3_isReferredTo_X1_trainOf : GoodIn wsX3_isReferredTo wsX1_trainOf := goodIn_r _ [14, 15, 41, 42, 43, 44] (by decide +kernel) (by decide +kernel)
set_option maxRecDepth 20000 in
theorem gX3_isReferredTo_X1_trainOf : GoodIn wsX3_isReferredTo (wsV RX3 138 RX1 yX1_trainOf wsX1_trainOf) := goodIn_app (goodIn_of _ (by decide +kernel)) ggX3_isReferredTo_X1_trainOf
set_option maxRecDepth 20000 in
theorem ggX3_isReferredTo_X0_nextReference : GoodIn wsX3_isReferredTo wsX0_nextReference := goodIn_r _ [20, 21, 22, 45, 46, 47, 48, 49] (by decide +kernel) (by decide +kernel)
set_option maxRecDepth 20000 in
theorem gX3_isReferredTo_X0_nextReference : GoodIn wsX3_isReferredTo (wsV RX3 76 RX0 yX0_nextReference wsX0_nextReference) := goodIn_app (goodIn_of _ (by decide +kernel)) ggX3_isReferredTo_X0_nextReference
set_option maxRecDepth 20000 in
theorem ggX3_isReferredTo_X0_at : GoodIn wsX3_isReferredTo wsX0_at := goodIn_r _ [26, 27, 45, 46, 47, 48, 49] (by decide +kernel) (by decide +kernel)
set_option maxRecDepth 20000 in
theorem gX3_isReferredTo_X0_at : GoodIn wsX3_isReferredTo (wsV RX3 79 RX0 yX0_at wsX0_at) := goodIn_app (goodIn_of _ (by decide +kernel)) ggX3_isReferredTo_X0_at
theorem dX3_isReferredTo_0 : decode cX3_isReferredTo 0 = .ok (.iconst 0, 1) := by decide +kernel
theorem dX3_isReferredTo_1 : decode cX3_isReferredTo 1 = .ok (.istore_n 2, 1) := by decide +kernel
theorem dX3_isReferredTo_2 : decode cX3_isReferredTo 2 = .ok (.iload_n 2, 1) := by decide +kernel
theorem dX3_isReferredTo_3 : decode cX3_isReferredTo 3 = .ok (.bipush 16, 2) := by decide +kernel
theorem dX3_isReferredTo_5 : decode cX3_isReferredTo 5 = .ok (.if_icmp .ge 31, 3) := by decide +kernel
theorem dX3_isReferredTo_8 : decode cX3_isReferredTo 8 = .ok (.aload_n 0, 1) := by decide +kernel
theorem dX3_isReferredTo_9 : decode cX3_isReferredTo 9 = .ok (.getfield 21, 3) := by decide +kernel
theorem dX3_isReferredTo_12 : decode cX3_isReferredTo 12 = .ok (.aload_n 0, 1) := by decide +kernel
theorem dX3_isReferredTo_13 : decode cX3_isReferredTo 13 = .ok (.getfield 25, 3) := by decide +kernel
theorem dX3_isReferredTo_16 : decode cX3_isReferredTo 16 = .ok (.iload_n 2, 1) := by decide +kernel
theorem dX3_isReferredTo_17 : decode cX3_isReferredTo 17 = .ok (.iaload, 1) := by decide +kernel
theorem dX3_isReferredTo_18 : decode cX3_isReferredTo 18 = .ok (.invokestatic 82, 3) := by decide +kernel
theorem dX3_isReferredTo_21 : decode cX3_isReferredTo 21 = .ok (.invokevirtual 138, 3) := by decide +kernel
theorem dX3_isReferredTo_24 : decode cX3_isReferredTo 24 = .ok (.iload_n 1, 1) := by decide +kernel
theorem dX3_isReferredTo_25 : decode cX3_isReferredTo 25 = .ok (.if_icmp .ne 5, 3) := by decide +kernel
theorem dX3_isReferredTo_28 : decode cX3_isReferredTo 28 = .ok (.iconst 1, 1) := by decide +kernel
theorem dX3_isReferredTo_29 : decode cX3_isReferredTo 29 = .ok (.ireturn, 1) := by decide +kernel
theorem dX3_isReferredTo_30 : decode cX3_isReferredTo 30 = .ok (.iinc 2 1, 3) := by decide +kernel
theorem dX3_isReferredTo_33 : decode cX3_isReferredTo 33 = .ok (.goto (-31), 3) := by decide +kernel
theorem dX3_isReferredTo_36 : decode cX3_isReferredTo 36 = .ok (.aload_n 0, 1) := by decide +kernel
theorem dX3_isReferredTo_37 : decode cX3_isReferredTo 37 = .ok (.getfield 12, 3) := by decide +kernel
theorem dX3_isReferredTo_40 : decode cX3_isReferredTo 40 = .ok (.iconst 0, 1) := by decide +kernel
theorem dX3_isReferredTo_41 : decode cX3_isReferredTo 41 = .ok (.invokevirtual 76, 3) := by decide +kernel
theorem dX3_isReferredTo_44 : decode cX3_isReferredTo 44 = .ok (.istore_n 2, 1) := by decide +kernel
theorem dX3_isReferredTo_45 : decode cX3_isReferredTo 45 = .ok (.iload_n 2, 1) := by decide +kernel
theorem dX3_isReferredTo_46 : decode cX3_isReferredTo 46 = .ok (.sipush 1280, 3) := by decide +kernel
theorem dX3_isReferredTo_49 : decode cX3_isReferredTo 49 = .ok (.if_icmp .ge 56, 3) := by decide +kernel
theorem dX3_isReferredTo_52 : decode cX3_isReferredTo 52 = .ok (.aload_n 0, 1) := by decide +kernel
theorem dX3_isReferredTo_53 : decode cX3_isReferredTo 53 = .ok (.getfield 21, 3) := by decide +kernel
theorem dX3_isReferredTo_56 : decode cX3_isReferredTo 56 = .ok (.aload_n 0, 1) := by decide +kernel
theorem dX3_isReferredTo_57 : decode cX3_isReferredTo 57 = .ok (.getfield 12, 3) := by decide +kernel
theorem dX3_isReferredTo_60 : decode cX3_isReferredTo 60 = .ok (.iload_n 2, 1) := by decide +kernel
theorem dX3_isReferredTo_61 : decode cX3_isReferredTo 61 = .ok (.invokevirtual 79, 3) := by decide +kernel
theorem dX3_isReferredTo_64 : decode cX3_isReferredTo 64 = .ok (.invokestatic 82, 3) := by decide +kernel
theorem dX3_isReferredTo_67 : decode cX3_isReferredTo 67 = .ok (.invokevirtual 138, 3) := by decide +kernel
theorem dX3_isReferredTo_70 : decode cX3_isReferredTo 70 = .ok (.iload_n 1, 1) := by decide +kernel
theorem dX3_isReferredTo_71 : decode cX3_isReferredTo 71 = .ok (.if_icmp .ne 20, 3) := by decide +kernel
theorem dX3_isReferredTo_74 : decode cX3_isReferredTo 74 = .ok (.aload_n 0, 1) := by decide +kernel
theorem dX3_isReferredTo_75 : decode cX3_isReferredTo 75 = .ok (.getfield 21, 3) := by decide +kernel
theorem dX3_isReferredTo_78 : decode cX3_isReferredTo 78 = .ok (.iload_n 2, 1) := by decide +kernel
theorem dX3_isReferredTo_79 : decode cX3_isReferredTo 79 = .ok (.invokestatic 82, 3) := by decide +kernel
theorem dX3_isReferredTo_82 : decode cX3_isReferredTo 82 = .ok (.invokevirtual 138, 3) := by decide +kernel
theorem dX3_isReferredTo_85 : decode cX3_isReferredTo 85 = .ok (.iload_n 1, 1) := by decide +kernel
theorem dX3_isReferredTo_86 : decode cX3_isReferredTo 86 = .ok (.if_icmp .eq 5, 3) := by decide +kernel
theorem dX3_isReferredTo_89 : decode cX3_isReferredTo 89 = .ok (.iconst 1, 1) := by decide +kernel
theorem dX3_isReferredTo_90 : decode cX3_isReferredTo 90 = .ok (.ireturn, 1) := by decide +kernel
theorem dX3_isReferredTo_91 : decode cX3_isReferredTo 91 = .ok (.aload_n 0, 1) := by decide +kernel
theorem dX3_isReferredTo_92 : decode cX3_isReferredTo 92 = .ok (.getfield 12, 3) := by decide +kernel
theorem dX3_isReferredTo_95 : decode cX3_isReferredTo 95 = .ok (.iload_n 2, 1) := by decide +kernel
theorem dX3_isReferredTo_96 : decode cX3_isReferredTo 96 = .ok (.iconst 1, 1) := by decide +kernel
theorem dX3_isReferredTo_97 : decode cX3_isReferredTo 97 = .ok (.iadd, 1) := by decide +kernel
theorem dX3_isReferredTo_98 : decode cX3_isReferredTo 98 = .ok (.invokevirtual 76, 3) := by decide +kernel
theorem dX3_isReferredTo_101 : decode cX3_isReferredTo 101 = .ok (.istore_n 2, 1) := by decide +kernel
theorem dX3_isReferredTo_102 : decode cX3_isReferredTo 102 = .ok (.goto (-57), 3) := by decide +kernel
theorem dX3_isReferredTo_105 : decode cX3_isReferredTo 105 = .ok (.iconst 0, 1) := by decide +kernel
theorem dX3_isReferredTo_106 : decode cX3_isReferredTo 106 = .ok (.ireturn, 1) := by decide +kernel
set_option maxRecDepth 20000 in
theorem ggX3_dropFirstTrain_X1_carsOf : GoodIn wsX3_dropFirstTrain wsX1_carsOf := goodIn_r _ [8, 9, 10, 11, 12, 13, 7, 14, 15, 59, 60, 61, 62] (by decide +kernel) (by decide +kernel)
set_option maxRecDepth 20000 in
theorem gX3_dropFirstTrain_X1_carsOf : GoodIn wsX3_dropFirstTrain (wsV RX3 106 RX1 yX1_carsOf wsX1_carsOf) := goodIn_app (goodIn_of _ (by decide +kernel)) ggX3_dropFirstTrain_X1_carsOf
set_option maxRecDepth 20000 in
theorem ggX3_dropFirstTrain_X3_thingsIn : GoodIn wsX3_dropFirstTrain wsX3_thingsIn := goodIn_r _ [20, 2, 1, 21, 22, 23, 7, 24, 9, 10, 25, 26, 27, 28, 29, 30, 31, 32, 33, 46, 47, 48, 49, 50, 51, 52, 53, 54, 55, 56, 57, 58, 59, 60, 61, 62, 63, 64, 65, 66, 67] (by decide +kernel) (by decide +kernel)
set_option maxRecDepth 20000 in
theorem gX3_dropFirstTrain_X3_thingsIn : GoodIn wsX3_dropFirstTrain (wsV RX3 141 RX3 yX3_thingsIn wsX3_thingsIn) := goodIn_app (goodIn_of _ (by decide +kernel)) ggX3_dropFirstTrain_X3_thingsIn
set_option maxRecDepth 20000 in
theorem ggX3_dropFirstTrain_X1_carAt : GoodIn wsX3_dropFirstTrain wsX1_carAt := goodIn_r _ [24, 9, 10, 59, 60, 61, 62] (by decide +kernel) (by decide +kernel)
set_option maxRecDepth 20000 in
theorem gX3_dropFirstTrain_X1_carAt : GoodIn wsX3_dropFirstTrain (wsV RX3 66 RX1 yX1_carAt wsX1_carAt) := goodIn_app (goodIn_of _ (by decide +kernel)) ggX3_dropFirstTrain_X1_carAt
set_option maxRecDepth 20000 in
theorem ggX3_dropFirstTrain_X0_clear : GoodIn wsX3_dropFirstTrain wsX0_clear := goodIn_r _ [37, 38, 39, 40, 30, 31, 32, 33, 63, 64, 65, 66, 67] (by decide +kernel) (by decide +kernel)
set_option maxRecDepth 20000 in
theorem gX3_dropFirstTrain_X0_clear : GoodIn wsX3_dropFirstTrain (wsV RX3 144 RX0 yX0_clear wsX0_clear) := goodIn_app (goodIn_of _ (by decide +kernel)) ggX3_dropFirstTrain_X0_clear
set_option maxRecDepth 20000 in
theorem ggX3_dropFirstTrain_X1_removeFirstCar : GoodIn wsX3_dropFirstTrain wsX1_removeFirstCar := goodIn_r _ [44, 15, 9, 10, 45, 22, 23, 7, 24, 31, 32, 33, 59, 60, 61, 62] (by decide +kernel) (by decide +kernel)
set_option maxRecDepth 20000 in
theorem gX3_dropFirstTrain_X1_removeFirstCar : GoodIn wsX3_dropFirstTrain (wsV RX3 147 RX1 yX1_removeFirstCar wsX1_removeFirstCar) := goodIn_app (goodIn_of _ (by decide +kernel)) ggX3_dropFirstTrain_X1_removeFirstCar
theorem dX3_dropFirstTrain_0 : decode cX3_dropFirstTrain 0 = .ok (.aload_n 0, 1) := by decide +kernel
theorem dX3_dropFirstTrain_1 : decode cX3_dropFirstTrain 1 = .ok (.getfield 21, 3) := by decide +kernel
theorem dX3_dropFirstTrain_4 : decode cX3_dropFirstTrain 4 = .ok (.iload_n 1, 1) := by decide +kernel
theorem dX3_dropFirstTrain_5 : decode cX3_dropFirstTrain 5 = .ok (.invokevirtual 106, 3) := by decide +kernel
theorem dX3_dropFirstTrain_8 : decode cX3_dropFirstTrain 8 = .ok (.istore_n 2, 1) := by decide +kernel
theorem dX3_dropFirstTrain_9 : decode cX3_dropFirstTrain 9 = .ok (.aload_n 0, 1) := by decide +kernel
theorem dX3_dropFirstTrain_10 : decode cX3_dropFirstTrain 10 = .ok (.iconst 0, 1) := by decide +kernel
theorem dX3_dropFirstTrain_11 : decode cX3_dropFirstTrain 11 = .ok (.iload_n 2, 1) := by decide +kernel
theorem dX3_dropFirstTrain_12 : decode cX3_dropFirstTrain 12 = .ok (.invokevirtual 141, 3) := by decide +kernel
theorem dX3_dropFirstTrain_15 : decode cX3_dropFirstTrain 15 = .ok (.istore_n 3, 1) := by decide +kernel
theorem dX3_dropFirstTrain_16 : decode cX3_dropFirstTrain 16 = .ok (.iconst 0, 1) := by decide +kernel
theorem dX3_dropFirstTrain_17 : decode cX3_dropFirstTrain 17 = .ok (.istore 4, 2) := by decide +kernel
theorem dX3_dropFirstTrain_19 : decode cX3_dropFirstTrain 19 = .ok (.iload 4, 2) := by decide +kernel
theorem dX3_dropFirstTrain_21 : decode cX3_dropFirstTrain 21 = .ok (.iload_n 2, 1) := by decide +kernel
theorem dX3_dropFirstTrain_22 : decode cX3_dropFirstTrain 22 = .ok (.if_icmp .ge 31, 3) := by decide +kernel
theorem dX3_dropFirstTrain_25 : decode cX3_dropFirstTrain 25 = .ok (.aload_n 0, 1) := by decide +kernel
theorem dX3_dropFirstTrain_26 : decode cX3_dropFirstTrain 26 = .ok (.getfield 12, 3) := by decide +kernel
theorem dX3_dropFirstTrain_29 : decode cX3_dropFirstTrain 29 = .ok (.aload_n 0, 1) := by decide +kernel
theorem dX3_dropFirstTrain_30 : decode cX3_dropFirstTrain 30 = .ok (.getfield 21, 3) := by decide +kernel
theorem dX3_dropFirstTrain_33 : decode cX3_dropFirstTrain 33 = .ok (.iconst 0, 1) := by decide +kernel
theorem dX3_dropFirstTrain_34 : decode cX3_dropFirstTrain 34 = .ok (.invokevirtual 66, 3) := by decide +kernel
theorem dX3_dropFirstTrain_37 : decode cX3_dropFirstTrain 37 = .ok (.invokevirtual 144, 3) := by decide +kernel
theorem dX3_dropFirstTrain_40 : decode cX3_dropFirstTrain 40 = .ok (.aload_n 0, 1) := by decide +kernel
theorem dX3_dropFirstTrain_41 : decode cX3_dropFirstTrain 41 = .ok (.getfield 21, 3) := by decide +kernel
theorem dX3_dropFirstTrain_44 : decode cX3_dropFirstTrain 44 = .ok (.invokevirtual 147, 3) := by decide +kernel
theorem dX3_dropFirstTrain_47 : decode cX3_dropFirstTrain 47 = .ok (.iinc 4 1, 3) := by decide +kernel
theorem dX3_dropFirstTrain_50 : decode cX3_dropFirstTrain 50 = .ok (.goto (-31), 3) := by decide +kernel
theorem dX3_dropFirstTrain_53 : decode cX3_dropFirstTrain 53 = .ok (.aload_n 0, 1) := by decide +kernel
theorem dX3_dropFirstTrain_54 : decode cX3_dropFirstTrain 54 = .ok (.dup, 1) := by decide +kernel
theorem dX3_dropFirstTrain_55 : decode cX3_dropFirstTrain 55 = .ok (.getfield 33, 3) := by decide +kernel
theorem dX3_dropFirstTrain_58 : decode cX3_dropFirstTrain 58 = .ok (.iconst 1, 1) := by decide +kernel
theorem dX3_dropFirstTrain_59 : decode cX3_dropFirstTrain 59 = .ok (.iadd, 1) := by decide +kernel
theorem dX3_dropFirstTrain_60 : decode cX3_dropFirstTrain 60 = .ok (.putfield 33, 3) := by decide +kernel
theorem dX3_dropFirstTrain_63 : decode cX3_dropFirstTrain 63 = .ok (.iload_n 3, 1) := by decide +kernel
theorem dX3_dropFirstTrain_64 : decode cX3_dropFirstTrain 64 = .ok (.ireturn, 1) := by decide +kernel
set_option maxRecDepth 20000 in
theorem ggX3_startEmptying_X1_carAt : GoodIn wsX3_startEmptying wsX1_carAt := goodIn_r _ [10, 11, 12, 30, 31, 32, 33] (by decide +kernel) (by decide +kernel)
set_option maxRecDepth 20000 in
theorem gX3_startEmptying_X1_carAt : GoodIn wsX3_startEmptying (wsV RX3 66 RX1 yX1_carAt wsX1_carAt) := goodIn_app (goodIn_of _ (by decide +kernel)) ggX3_startEmptying_X1_carAt
set_option maxRecDepth 20000 in
theorem ggX3_startEmptying_J7_fill_53178 : GoodIn wsX3_startEmptying wsJ7_fill_53178 := goodIn_r _ [16] (by decide +kernel) (by decide +kernel)
set_option maxRecDepth 20000 in
theorem gX3_startEmptying_J7_fill_53178 : GoodIn wsX3_startEmptying (va_wsS RX3 60 yJ7_fill_53178 wsJ7_fill_53178) := goodIn_app (goodIn_of _ (by decide +kernel)) ggX3_startEmptying_J7_fill_53178
theorem dX3_startEmptying_0 : decode cX3_startEmptying 0 = .ok (.aload_n 0, 1) := by decide +kernel
theorem dX3_startEmptying_1 : decode cX3_startEmptying 1 = .ok (.aload_n 0, 1) := by decide +kernel
theorem dX3_startEmptying_2 : decode cX3_startEmptying 2 = .ok (.getfield 21, 3) := by decide +kernel
theorem dX3_startEmptying_5 : decode cX3_startEmptying 5 = .ok (.iconst 0, 1) := by decide +kernel
theorem dX3_startEmptying_6 : decode cX3_startEmptying 6 = .ok (.invokevirtual 66, 3) := by decide +kernel
theorem dX3_startEmptying_9 : decode cX3_startEmptying 9 = .ok (.putfield 45, 3) := by decide +kernel
theorem dX3_startEmptying_12 : decode cX3_startEmptying 12 = .ok (.aload_n 0, 1) := by decide +kernel
theorem dX3_startEmptying_13 : decode cX3_startEmptying 13 = .ok (.getfield 48, 3) := by decide +kernel
theorem dX3_startEmptying_16 : decode cX3_startEmptying 16 = .ok (.iconst (-1), 1) := by decide +kernel
theorem dX3_startEmptying_17 : decode cX3_startEmptying 17 = .ok (.invokestatic 60, 3) := by decide +kernel
theorem dX3_startEmptying_20 : decode cX3_startEmptying 20 = .ok (.aload_n 0, 1) := by decide +kernel
theorem dX3_startEmptying_21 : decode cX3_startEmptying 21 = .ok (.iconst 0, 1) := by decide +kernel
theorem dX3_startEmptying_22 : decode cX3_startEmptying 22 = .ok (.putfield 54, 3) := by decide +kernel
theorem dX3_startEmptying_25 : decode cX3_startEmptying 25 = .ok (.aload_n 0, 1) := by decide +kernel
theorem dX3_startEmptying_26 : decode cX3_startEmptying 26 = .ok (.iconst 0, 1) := by decide +kernel
theorem dX3_startEmptying_27 : decode cX3_startEmptying 27 = .ok (.putfield 57, 3) := by decide +kernel
theorem dX3_startEmptying_30 : decode cX3_startEmptying 30 = .ok (.return_, 1) := by decide +kernel
set_option maxRecDepth 20000 in
theorem ggX3_endEmptying_X3_placeNow : GoodIn wsX3_endEmptying wsX3_placeNow := goodIn_r _ [9, 3, 10, 11, 12, 13, 14, 15, 16, 52, 53, 54, 55, 56, 57, 58, 59, 60, 61, 62, 63, 64] (by decide +kernel) (by decide +kernel)
set_option maxRecDepth 20000 in
theorem gX3_endEmptying_X3_placeNow : GoodIn wsX3_endEmptying (wsV RX3 150 RX3 yX3_placeNow wsX3_placeNow) := goodIn_app (goodIn_of _ (by decide +kernel)) ggX3_endEmptying_X3_placeNow
set_option maxRecDepth 20000 in
theorem ggX3_endEmptying_X0_clear : GoodIn wsX3_endEmptying wsX0_clear := goodIn_r _ [21, 22, 23, 24, 25, 26, 12, 27, 65, 66, 67, 68, 69] (by decide +kernel) (by decide +kernel)
set_option maxRecDepth 20000 in
theorem gX3_endEmptying_X0_clear : GoodIn wsX3_endEmptying (wsV RX3 144 RX0 yX0_clear wsX0_clear) := goodIn_app (goodIn_of _ (by decide +kernel)) ggX3_endEmptying_X0_clear
set_option maxRecDepth 20000 in
theorem ggX3_endEmptying_X0_nextReference : GoodIn wsX3_endEmptying wsX0_nextReference := goodIn_r _ [31, 24, 23, 65, 66, 67, 68, 69] (by decide +kernel) (by decide +kernel)
set_option maxRecDepth 20000 in
theorem gX3_endEmptying_X0_nextReference : GoodIn wsX3_endEmptying (wsV RX3 76 RX0 yX0_nextReference wsX0_nextReference) := goodIn_app (goodIn_of _ (by decide +kernel)) ggX3_endEmptying_X0_nextReference
set_option maxRecDepth 20000 in
theorem ggX3_endEmptying_X0_at : GoodIn wsX3_endEmptying wsX0_at := goodIn_r _ [35, 22, 65, 66, 67, 68, 69] (by decide +kernel) (by decide +kernel)
set_option maxRecDepth 20000 in
theorem gX3_endEmptying_X0_at : GoodIn wsX3_endEmptying (wsV RX3 79 RX0 yX0_at wsX0_at) := goodIn_app (goodIn_of _ (by decide +kernel)) ggX3_endEmptying_X0_at
set_option maxRecDepth 20000 in
theorem ggX3_endEmptying_X0_write : GoodIn wsX3_endEmptying wsX0_write := goodIn_r _ [39, 22, 65, 66, 67, 68, 69] (by decide +kernel) (by decide +kernel)
set_option maxRecDepth 20000 in
theorem gX3_endEmptying_X0_write : GoodIn wsX3_endEmptying (wsV RX3 153 RX0 yX0_write wsX0_write) := goodIn_app (goodIn_of _ (by decide +kernel)) ggX3_endEmptying_X0_write
set_option maxRecDepth 20000 in
theorem ggX3_endEmptying_X1_removeFirstCar : GoodIn wsX3_endEmptying wsX1_removeFirstCar := goodIn_r _ [44, 45, 46, 47, 48, 49, 50, 43, 51, 26, 12, 27, 70, 71, 72, 73] (by decide +kernel) (by decide +kernel)
set_option maxRecDepth 20000 in
theorem gX3_endEmptying_X1_removeFirstCar : GoodIn wsX3_endEmptying (wsV RX3 147 RX1 yX1_removeFirstCar wsX1_removeFirstCar) := goodIn_app (goodIn_of _ (by decide +kernel)) ggX3_endEmptying_X1_removeFirstCar
theorem dX3_endEmptying_0 : decode cX3_endEmptying 0 = .ok (.iconst 0, 1) := by decide +kernel
theorem dX3_endEmptying_1 : decode cX3_endEmptying 1 = .ok (.istore_n 1, 1) := by decide +kernel
theorem dX3_endEmptying_2 : decode cX3_endEmptying 2 = .ok (.iload_n 1, 1) := by decide +kernel
theorem dX3_endEmptying_3 : decode cX3_endEmptying 3 = .ok (.bipush 16, 2) := by decide +kernel
theorem dX3_endEmptying_5 : decode cX3_endEmptying 5 = .ok (.if_icmp .ge 25, 3) := by decide +kernel
theorem dX3_endEmptying_8 : decode cX3_endEmptying 8 = .ok (.aload_n 0, 1) := by decide +kernel
theorem dX3_endEmptying_9 : decode cX3_endEmptying 9 = .ok (.getfield 25, 3) := by decide +kernel
theorem dX3_endEmptying_12 : decode cX3_endEmptying 12 = .ok (.iload_n 1, 1) := by decide +kernel
theorem dX3_endEmptying_13 : decode cX3_endEmptying 13 = .ok (.aload_n 0, 1) := by decide +kernel
theorem dX3_endEmptying_14 : decode cX3_endEmptying 14 = .ok (.aload_n 0, 1) := by decide +kernel
theorem dX3_endEmptying_15 : decode cX3_endEmptying 15 = .ok (.getfield 25, 3) := by decide +kernel
theorem dX3_endEmptying_18 : decode cX3_endEmptying 18 = .ok (.iload_n 1, 1) := by decide +kernel
theorem dX3_endEmptying_19 : decode cX3_endEmptying 19 = .ok (.iaload, 1) := by decide +kernel
theorem dX3_endEmptying_20 : decode cX3_endEmptying 20 = .ok (.invokevirtual 150, 3) := by decide +kernel
theorem dX3_endEmptying_23 : decode cX3_endEmptying 23 = .ok (.iastore, 1) := by decide +kernel
theorem dX3_endEmptying_24 : decode cX3_endEmptying 24 = .ok (.iinc 1 1, 3) := by decide +kernel
theorem dX3_endEmptying_27 : decode cX3_endEmptying 27 = .ok (.goto (-25), 3) := by decide +kernel
theorem dX3_endEmptying_30 : decode cX3_endEmptying 30 = .ok (.aload_n 0, 1) := by decide +kernel
theorem dX3_endEmptying_31 : decode cX3_endEmptying 31 = .ok (.getfield 12, 3) := by decide +kernel
theorem dX3_endEmptying_34 : decode cX3_endEmptying 34 = .ok (.aload_n 0, 1) := by decide +kernel
theorem dX3_endEmptying_35 : decode cX3_endEmptying 35 = .ok (.getfield 45, 3) := by decide +kernel
theorem dX3_endEmptying_38 : decode cX3_endEmptying 38 = .ok (.invokevirtual 144, 3) := by decide +kernel
theorem dX3_endEmptying_41 : decode cX3_endEmptying 41 = .ok (.aload_n 0, 1) := by decide +kernel
theorem dX3_endEmptying_42 : decode cX3_endEmptying 42 = .ok (.getfield 12, 3) := by decide +kernel
theorem dX3_endEmptying_45 : decode cX3_endEmptying 45 = .ok (.iconst 0, 1) := by decide +kernel
theorem dX3_endEmptying_46 : decode cX3_endEmptying 46 = .ok (.invokevirtual 76, 3) := by decide +kernel
theorem dX3_endEmptying_49 : decode cX3_endEmptying 49 = .ok (.istore_n 1, 1) := by decide +kernel
theorem dX3_endEmptying_50 : decode cX3_endEmptying 50 = .ok (.iload_n 1, 1) := by decide +kernel
theorem dX3_endEmptying_51 : decode cX3_endEmptying 51 = .ok (.sipush 1280, 3) := by decide +kernel
theorem dX3_endEmptying_54 : decode cX3_endEmptying 54 = .ok (.if_icmp .ge 37, 3) := by decide +kernel
theorem dX3_endEmptying_57 : decode cX3_endEmptying 57 = .ok (.aload_n 0, 1) := by decide +kernel
theorem dX3_endEmptying_58 : decode cX3_endEmptying 58 = .ok (.getfield 12, 3) := by decide +kernel
theorem dX3_endEmptying_61 : decode cX3_endEmptying 61 = .ok (.iload_n 1, 1) := by decide +kernel
theorem dX3_endEmptying_62 : decode cX3_endEmptying 62 = .ok (.aload_n 0, 1) := by decide +kernel
theorem dX3_endEmptying_63 : decode cX3_endEmptying 63 = .ok (.aload_n 0, 1) := by decide +kernel
theorem dX3_endEmptying_64 : decode cX3_endEmptying 64 = .ok (.getfield 12, 3) := by decide +kernel
theorem dX3_endEmptying_67 : decode cX3_endEmptying 67 = .ok (.iload_n 1, 1) := by decide +kernel
theorem dX3_endEmptying_68 : decode cX3_endEmptying 68 = .ok (.invokevirtual 79, 3) := by decide +kernel
theorem dX3_endEmptying_71 : decode cX3_endEmptying 71 = .ok (.invokevirtual 150, 3) := by decide +kernel
theorem dX3_endEmptying_74 : decode cX3_endEmptying 74 = .ok (.invokevirtual 153, 3) := by decide +kernel
theorem dX3_endEmptying_77 : decode cX3_endEmptying 77 = .ok (.aload_n 0, 1) := by decide +kernel
theorem dX3_endEmptying_78 : decode cX3_endEmptying 78 = .ok (.getfield 12, 3) := by decide +kernel
theorem dX3_endEmptying_81 : decode cX3_endEmptying 81 = .ok (.iload_n 1, 1) := by decide +kernel
theorem dX3_endEmptying_82 : decode cX3_endEmptying 82 = .ok (.iconst 1, 1) := by decide +kernel
theorem dX3_endEmptying_83 : decode cX3_endEmptying 83 = .ok (.iadd, 1) := by decide +kernel
theorem dX3_endEmptying_84 : decode cX3_endEmptying 84 = .ok (.invokevirtual 76, 3) := by decide +kernel
theorem dX3_endEmptying_87 : decode cX3_endEmptying 87 = .ok (.istore_n 1, 1) := by decide +kernel
theorem dX3_endEmptying_88 : decode cX3_endEmptying 88 = .ok (.goto (-38), 3) := by decide +kernel
theorem dX3_endEmptying_91 : decode cX3_endEmptying 91 = .ok (.aload_n 0, 1) := by decide +kernel
theorem dX3_endEmptying_92 : decode cX3_endEmptying 92 = .ok (.getfield 21, 3) := by decide +kernel
theorem dX3_endEmptying_95 : decode cX3_endEmptying 95 = .ok (.invokevirtual 147, 3) := by decide +kernel
theorem dX3_endEmptying_98 : decode cX3_endEmptying 98 = .ok (.aload_n 0, 1) := by decide +kernel
theorem dX3_endEmptying_99 : decode cX3_endEmptying 99 = .ok (.iconst (-1), 1) := by decide +kernel
theorem dX3_endEmptying_100 : decode cX3_endEmptying 100 = .ok (.putfield 45, 3) := by decide +kernel
theorem dX3_endEmptying_103 : decode cX3_endEmptying 103 = .ok (.return_, 1) := by decide +kernel
set_option maxRecDepth 20000 in
theorem ggX3_placeNow_X4_carOf : GoodIn wsX3_placeNow wsX4_carOf := goodIn_r _ [5, 6, 7, 4, 8] (by decide +kernel) (by decide +kernel)
set_option maxRecDepth 20000 in
theorem gX3_placeNow_X4_carOf_n82 : GoodIn wsX3_placeNow (wsX4_carOf) := ggX3_placeNow_X4_carOf
theorem dX3_placeNow_0 : decode cX3_placeNow 0 = .ok (.iload_n 1, 1) := by decide +kernel
theorem dX3_placeNow_1 : decode cX3_placeNow 1 = .ok (.ifCond .lt 26, 3) := by decide +kernel
theorem dX3_placeNow_4 : decode cX3_placeNow 4 = .ok (.iload_n 1, 1) := by decide +kernel
theorem dX3_placeNow_5 : decode cX3_placeNow 5 = .ok (.invokestatic 82, 3) := by decide +kernel
theorem dX3_placeNow_8 : decode cX3_placeNow 8 = .ok (.aload_n 0, 1) := by decide +kernel
theorem dX3_placeNow_9 : decode cX3_placeNow 9 = .ok (.getfield 45, 3) := by decide +kernel
theorem dX3_placeNow_12 : decode cX3_placeNow 12 = .ok (.if_icmp .ne 15, 3) := by decide +kernel
theorem dX3_placeNow_15 : decode cX3_placeNow 15 = .ok (.aload_n 0, 1) := by decide +kernel
theorem dX3_placeNow_16 : decode cX3_placeNow 16 = .ok (.getfield 48, 3) := by decide +kernel
theorem dX3_placeNow_19 : decode cX3_placeNow 19 = .ok (.iload_n 1, 1) := by decide +kernel
theorem dX3_placeNow_20 : decode cX3_placeNow 20 = .ok (.bipush 32, 2) := by decide +kernel
theorem dX3_placeNow_22 : decode cX3_placeNow 22 = .ok (.irem, 1) := by decide +kernel
theorem dX3_placeNow_23 : decode cX3_placeNow 23 = .ok (.iaload, 1) := by decide +kernel
theorem dX3_placeNow_24 : decode cX3_placeNow 24 = .ok (.goto 4, 3) := by decide +kernel
theorem dX3_placeNow_27 : decode cX3_placeNow 27 = .ok (.iload_n 1, 1) := by decide +kernel
theorem dX3_placeNow_28 : decode cX3_placeNow 28 = .ok (.ireturn, 1) := by decide +kernel
set_option maxRecDepth 20000 in
theorem ggX3_moveHeld_X3_isStillThere : GoodIn wsX3_moveHeld wsX3_isStillThere := goodIn_r _ [7, 8, 9, 10, 11, 12, 13, 14, 15, 125, 126, 127, 128, 129, 130, 131, 132, 133, 134, 135, 136, 137] (by decide +kernel) (by decide +kernel)
set_option maxRecDepth 20000 in
theorem gX3_moveHeld_X3_isStillThere : GoodIn wsX3_moveHeld (wsV RX3 157 RX3 yX3_isStillThere wsX3_isStillThere) := goodIn_app (goodIn_of _ (by decide +kernel)) ggX3_moveHeld_X3_isStillThere
set_option maxRecDepth 20000 in
theorem ggX3_moveHeld_X1_lastTrain : GoodIn wsX3_moveHeld wsX1_lastTrain := goodIn_r _ [20, 21, 22, 23, 24, 19, 25, 26, 27, 28, 29, 30, 31, 138, 139, 140, 141] (by decide +kernel) (by decide +kernel)
set_option maxRecDepth 20000 in
theorem gX3_moveHeld_X1_lastTrain : GoodIn wsX3_moveHeld (wsV RX3 103 RX1 yX1_lastTrain wsX1_lastTrain) := goodIn_app (goodIn_of _ (by decide +kernel)) ggX3_moveHeld_X1_lastTrain
set_option maxRecDepth 20000 in
theorem ggX3_moveHeld_X1_addTrain : GoodIn wsX3_moveHeld wsX1_addTrain := goodIn_r _ [35, 36, 37, 38, 39, 19, 40, 21, 41, 42, 43, 44, 26, 31, 45, 46, 47, 48, 27, 28, 29, 30, 138, 139, 140, 141] (by decide +kernel) (by decide +kernel)
set_option maxRecDepth 20000 in
theorem gX3_moveHeld_X1_addTrain : GoodIn wsX3_moveHeld (wsV RX3 109 RX1 yX1_addTrain wsX1_addTrain) := goodIn_app (goodIn_of _ (by decide +kernel)) ggX3_moveHeld_X1_addTrain
set_option maxRecDepth 20000 in
theorem ggX3_moveHeld_X3_moveWithOthers : GoodIn wsX3_moveHeld wsX3_moveWithOthers := goodIn_r _ [52, 53, 54, 55, 56, 2, 57, 58, 59, 6, 60, 9, 61, 62, 3, 4, 5, 7, 8, 10, 11, 12, 13, 14, 15, 63, 64, 65, 66, 67, 68, 69, 70, 71, 72, 73, 74, 75, 76, 77, 78, 79, 19, 80, 21, 26, 27, 28, 29, 30, 31, 81, 82, 83, 84, 85, 86, 87, 88, 89, 90, 38, 39, 40, 91, 42, 43, 44, 45, 46, 47, 48, 92, 23, 24, 25, 93, 94, 95, 96, 97, 98, 99, 100, 101, 102, 103, 104, 105, 106, 107, 108, 109, 110, 111, 112, 113, 114, 115, 116, 117, 118, 119, 120, 121, 122, 123, 124, 125, 126, 127, 128, 129, 130, 131, 132, 133, 134, 135, 136, 137, 142, 143, 144, 145, 146, 138, 139, 140, 141] (by decide +kernel) (by decide +kernel)
set_option maxRecDepth 20000 in
theorem gX3_moveHeld_X3_moveWithOthers : GoodIn wsX3_moveHeld (wsV RX3 160 RX3 yX3_moveWithOthers wsX3_moveWithOthers) := goodIn_app (goodIn_of _ (by decide +kernel)) ggX3_moveHeld_X3_moveWithOthers
theorem dX3_moveHeld_0 : decode cX3_moveHeld 0 = .ok (.iconst 0, 1) := by decide +kernel
theorem dX3_moveHeld_1 : decode cX3_moveHeld 1 = .ok (.istore_n 2, 1) := by decide +kernel
theorem dX3_moveHeld_2 : decode cX3_moveHeld 2 = .ok (.iload_n 2, 1) := by decide +kernel
theorem dX3_moveHeld_3 : decode cX3_moveHeld 3 = .ok (.bipush 16, 2) := by decide +kernel
theorem dX3_moveHeld_5 : decode cX3_moveHeld 5 = .ok (.if_icmp .ge 58, 3) := by decide +kernel
theorem dX3_moveHeld_8 : decode cX3_moveHeld 8 = .ok (.aload_n 0, 1) := by decide +kernel
theorem dX3_moveHeld_9 : decode cX3_moveHeld 9 = .ok (.aload_n 0, 1) := by decide +kernel
theorem dX3_moveHeld_10 : decode cX3_moveHeld 10 = .ok (.getfield 25, 3) := by decide +kernel
theorem dX3_moveHeld_13 : decode cX3_moveHeld 13 = .ok (.iload_n 2, 1) := by decide +kernel
theorem dX3_moveHeld_14 : decode cX3_moveHeld 14 = .ok (.iaload, 1) := by decide +kernel
theorem dX3_moveHeld_15 : decode cX3_moveHeld 15 = .ok (.invokevirtual 157, 3) := by decide +kernel
theorem dX3_moveHeld_18 : decode cX3_moveHeld 18 = .ok (.ifCond .eq 39, 3) := by decide +kernel
theorem dX3_moveHeld_21 : decode cX3_moveHeld 21 = .ok (.aload_n 0, 1) := by decide +kernel
theorem dX3_moveHeld_22 : decode cX3_moveHeld 22 = .ok (.getfield 21, 3) := by decide +kernel
theorem dX3_moveHeld_25 : decode cX3_moveHeld 25 = .ok (.invokevirtual 103, 3) := by decide +kernel
theorem dX3_moveHeld_28 : decode cX3_moveHeld 28 = .ok (.iload_n 1, 1) := by decide +kernel
theorem dX3_moveHeld_29 : decode cX3_moveHeld 29 = .ok (.if_icmp .ne 11, 3) := by decide +kernel
theorem dX3_moveHeld_32 : decode cX3_moveHeld 32 = .ok (.aload_n 0, 1) := by decide +kernel
theorem dX3_moveHeld_33 : decode cX3_moveHeld 33 = .ok (.getfield 21, 3) := by decide +kernel
theorem dX3_moveHeld_36 : decode cX3_moveHeld 36 = .ok (.invokevirtual 109, 3) := by decide +kernel
theorem dX3_moveHeld_39 : decode cX3_moveHeld 39 = .ok (.pop, 1) := by decide +kernel
theorem dX3_moveHeld_40 : decode cX3_moveHeld 40 = .ok (.aload_n 0, 1) := by decide +kernel
theorem dX3_moveHeld_41 : decode cX3_moveHeld 41 = .ok (.aload_n 0, 1) := by decide +kernel
theorem dX3_moveHeld_42 : decode cX3_moveHeld 42 = .ok (.getfield 25, 3) := by decide +kernel
theorem dX3_moveHeld_45 : decode cX3_moveHeld 45 = .ok (.iload_n 2, 1) := by decide +kernel
theorem dX3_moveHeld_46 : decode cX3_moveHeld 46 = .ok (.iaload, 1) := by decide +kernel
theorem dX3_moveHeld_47 : decode cX3_moveHeld 47 = .ok (.aload_n 0, 1) := by decide +kernel
theorem dX3_moveHeld_48 : decode cX3_moveHeld 48 = .ok (.getfield 21, 3) := by decide +kernel
theorem dX3_moveHeld_51 : decode cX3_moveHeld 51 = .ok (.invokevirtual 103, 3) := by decide +kernel
theorem dX3_moveHeld_54 : decode cX3_moveHeld 54 = .ok (.invokevirtual 160, 3) := by decide +kernel
theorem dX3_moveHeld_57 : decode cX3_moveHeld 57 = .ok (.iinc 2 1, 3) := by decide +kernel
theorem dX3_moveHeld_60 : decode cX3_moveHeld 60 = .ok (.goto (-58), 3) := by decide +kernel
theorem dX3_moveHeld_63 : decode cX3_moveHeld 63 = .ok (.return_, 1) := by decide +kernel
set_option maxRecDepth 20000 in
theorem ggX3_moveReferredTo_X0_nextReference : GoodIn wsX3_moveReferredTo wsX0_nextReference := goodIn_r _ [8, 9, 10, 129, 130, 131, 132, 133] (by decide +kernel) (by decide +kernel)
set_option maxRecDepth 20000 in
theorem gX3_moveReferredTo_X0_nextReference : GoodIn wsX3_moveReferredTo (wsV RX3 76 RX0 yX0_nextReference wsX0_nextReference) := goodIn_app (goodIn_of _ (by decide +kernel)) ggX3_moveReferredTo_X0_nextReference
set_option maxRecDepth 20000 in
theorem ggX3_moveReferredTo_X4_carOf : GoodIn wsX3_moveReferredTo wsX4_carOf := goodIn_r _ [13, 14, 15, 12, 16] (by decide +kernel) (by decide +kernel)
set_option maxRecDepth 20000 in
theorem gX3_moveReferredTo_X4_carOf_n82 : GoodIn wsX3_moveReferredTo (wsX4_carOf) := ggX3_moveReferredTo_X4_carOf
set_option maxRecDepth 20000 in
theorem ggX3_moveReferredTo_X1_trainOf : GoodIn wsX3_moveReferredTo wsX1_trainOf := goodIn_r _ [21, 22, 134, 135, 136, 137] (by decide +kernel) (by decide +kernel)
set_option maxRecDepth 20000 in
theorem gX3_moveReferredTo_X1_trainOf : GoodIn wsX3_moveReferredTo (wsV RX3 138 RX1 yX1_trainOf wsX1_trainOf) := goodIn_app (goodIn_of _ (by decide +kernel)) ggX3_moveReferredTo_X1_trainOf
set_option maxRecDepth 20000 in
theorem ggX3_moveReferredTo_X0_at : GoodIn wsX3_moveReferredTo wsX0_at := goodIn_r _ [26, 27, 129, 130, 131, 132, 133] (by decide +kernel) (by decide +kernel)
set_option maxRecDepth 20000 in
theorem gX3_moveReferredTo_X0_at : GoodIn wsX3_moveReferredTo (wsV RX3 79 RX0 yX0_at wsX0_at) := goodIn_app (goodIn_of _ (by decide +kernel)) ggX3_moveReferredTo_X0_at
set_option maxRecDepth 20000 in
theorem ggX3_moveReferredTo_X3_moveWithOthers : GoodIn wsX3_moveReferredTo wsX3_moveWithOthers := goodIn_r _ [32, 33, 34, 35, 1, 2, 36, 37, 38, 31, 39, 40, 41, 42, 43, 44, 45, 46, 3, 11, 12, 13, 14, 15, 16, 47, 48, 49, 7, 50, 51, 24, 25, 26, 27, 52, 53, 54, 55, 56, 57, 58, 20, 59, 60, 61, 62, 18, 19, 21, 22, 63, 64, 65, 66, 67, 68, 69, 70, 9, 71, 72, 73, 74, 75, 76, 77, 78, 79, 80, 81, 82, 83, 84, 85, 86, 87, 88, 89, 90, 91, 92, 93, 94, 95, 96, 97, 98, 99, 100, 101, 102, 103, 104, 105, 106, 10, 107, 108, 109, 110, 111, 112, 113, 114, 115, 23, 17, 116, 117, 118, 119, 120, 121, 122, 123, 124, 125, 126, 127, 128, 129, 130, 131, 132, 133, 134, 135, 136, 137] (by decide +kernel) (by decide +kernel)
set_option maxRecDepth 20000 in
theorem gX3_moveReferredTo_X3_moveWithOthers : GoodIn wsX3_moveReferredTo (wsV RX3 160 RX3 yX3_moveWithOthers wsX3_moveWithOthers) := goodIn_app (goodIn_of _ (by decide +kernel)) ggX3_moveReferredTo_X3_moveWithOthers
theorem dX3_moveReferredTo_0 : decode cX3_moveReferredTo 0 = .ok (.aload_n 0, 1) := by decide +kernel
theorem dX3_moveReferredTo_1 : decode cX3_moveReferredTo 1 = .ok (.getfield 12, 3) := by decide +kernel
theorem dX3_moveReferredTo_4 : decode cX3_moveReferredTo 4 = .ok (.iconst 0, 1) := by decide +kernel
theorem dX3_moveReferredTo_5 : decode cX3_moveReferredTo 5 = .ok (.invokevirtual 76, 3) := by decide +kernel
theorem dX3_moveReferredTo_8 : decode cX3_moveReferredTo 8 = .ok (.istore_n 3, 1) := by decide +kernel
theorem dX3_moveReferredTo_9 : decode cX3_moveReferredTo 9 = .ok (.iload_n 3, 1) := by decide +kernel
theorem dX3_moveReferredTo_10 : decode cX3_moveReferredTo 10 = .ok (.sipush 1280, 3) := by decide +kernel
theorem dX3_moveReferredTo_13 : decode cX3_moveReferredTo 13 = .ok (.if_icmp .ge 72, 3) := by decide +kernel
theorem dX3_moveReferredTo_16 : decode cX3_moveReferredTo 16 = .ok (.iload_n 3, 1) := by decide +kernel
theorem dX3_moveReferredTo_17 : decode cX3_moveReferredTo 17 = .ok (.invokestatic 82, 3) := by decide +kernel
theorem dX3_moveReferredTo_20 : decode cX3_moveReferredTo 20 = .ok (.istore 4, 2) := by decide +kernel
theorem dX3_moveReferredTo_22 : decode cX3_moveReferredTo 22 = .ok (.aload_n 0, 1) := by decide +kernel
theorem dX3_moveReferredTo_23 : decode cX3_moveReferredTo 23 = .ok (.getfield 21, 3) := by decide +kernel
theorem dX3_moveReferredTo_26 : decode cX3_moveReferredTo 26 = .ok (.iload 4, 2) := by decide +kernel
theorem dX3_moveReferredTo_28 : decode cX3_moveReferredTo 28 = .ok (.invokevirtual 138, 3) := by decide +kernel
theorem dX3_moveReferredTo_31 : decode cX3_moveReferredTo 31 = .ok (.istore 5, 2) := by decide +kernel
theorem dX3_moveReferredTo_33 : decode cX3_moveReferredTo 33 = .ok (.iload 4, 2) := by decide +kernel
theorem dX3_moveReferredTo_35 : decode cX3_moveReferredTo 35 = .ok (.aload_n 0, 1) := by decide +kernel
theorem dX3_moveReferredTo_36 : decode cX3_moveReferredTo 36 = .ok (.getfield 45, 3) := by decide +kernel
theorem dX3_moveReferredTo_39 : decode cX3_moveReferredTo 39 = .ok (.if_icmp .eq 32, 3) := by decide +kernel
theorem dX3_moveReferredTo_42 : decode cX3_moveReferredTo 42 = .ok (.iload 5, 2) := by decide +kernel
theorem dX3_moveReferredTo_44 : decode cX3_moveReferredTo 44 = .ok (.iload_n 1, 1) := by decide +kernel
theorem dX3_moveReferredTo_45 : decode cX3_moveReferredTo 45 = .ok (.if_icmp .ne 7, 3) := by decide +kernel
theorem dX3_moveReferredTo_48 : decode cX3_moveReferredTo 48 = .ok (.iconst 1, 1) := by decide +kernel
theorem dX3_moveReferredTo_49 : decode cX3_moveReferredTo 49 = .ok (.goto 4, 3) := by decide +kernel
theorem dX3_moveReferredTo_52 : decode cX3_moveReferredTo 52 = .ok (.iconst 0, 1) := by decide +kernel
theorem dX3_moveReferredTo_53 : decode cX3_moveReferredTo 53 = .ok (.iload_n 2, 1) := by decide +kernel
theorem dX3_moveReferredTo_54 : decode cX3_moveReferredTo 54 = .ok (.if_icmp .ne 17, 3) := by decide +kernel
theorem dX3_moveReferredTo_57 : decode cX3_moveReferredTo 57 = .ok (.aload_n 0, 1) := by decide +kernel
theorem dX3_moveReferredTo_58 : decode cX3_moveReferredTo 58 = .ok (.aload_n 0, 1) := by decide +kernel
theorem dX3_moveReferredTo_59 : decode cX3_moveReferredTo 59 = .ok (.getfield 12, 3) := by decide +kernel
theorem dX3_moveReferredTo_62 : decode cX3_moveReferredTo 62 = .ok (.iload_n 3, 1) := by decide +kernel
theorem dX3_moveReferredTo_63 : decode cX3_moveReferredTo 63 = .ok (.invokevirtual 79, 3) := by decide +kernel
theorem dX3_moveReferredTo_66 : decode cX3_moveReferredTo 66 = .ok (.iload 5, 2) := by decide +kernel
theorem dX3_moveReferredTo_68 : decode cX3_moveReferredTo 68 = .ok (.invokevirtual 160, 3) := by decide +kernel
theorem dX3_moveReferredTo_71 : decode cX3_moveReferredTo 71 = .ok (.aload_n 0, 1) := by decide +kernel
theorem dX3_moveReferredTo_72 : decode cX3_moveReferredTo 72 = .ok (.getfield 12, 3) := by decide +kernel
theorem dX3_moveReferredTo_75 : decode cX3_moveReferredTo 75 = .ok (.iload_n 3, 1) := by decide +kernel
theorem dX3_moveReferredTo_76 : decode cX3_moveReferredTo 76 = .ok (.iconst 1, 1) := by decide +kernel
theorem dX3_moveReferredTo_77 : decode cX3_moveReferredTo 77 = .ok (.iadd, 1) := by decide +kernel
theorem dX3_moveReferredTo_78 : decode cX3_moveReferredTo 78 = .ok (.invokevirtual 76, 3) := by decide +kernel
theorem dX3_moveReferredTo_81 : decode cX3_moveReferredTo 81 = .ok (.istore_n 3, 1) := by decide +kernel
theorem dX3_moveReferredTo_82 : decode cX3_moveReferredTo 82 = .ok (.goto (-73), 3) := by decide +kernel
theorem dX3_moveReferredTo_85 : decode cX3_moveReferredTo 85 = .ok (.return_, 1) := by decide +kernel
set_option maxRecDepth 20000 in
theorem ggX3_isStillThere_X4_carOf : GoodIn wsX3_isStillThere wsX4_carOf := goodIn_r _ [5, 6, 7, 4, 8] (by decide +kernel) (by decide +kernel)
set_option maxRecDepth 20000 in
theorem gX3_isStillThere_X4_carOf_n82 : GoodIn wsX3_isStillThere (wsX4_carOf) := ggX3_isStillThere_X4_carOf
theorem dX3_isStillThere_0 : decode cX3_isStillThere 0 = .ok (.iload_n 1, 1) := by decide +kernel
theorem dX3_isStillThere_1 : decode cX3_isStillThere 1 = .ok (.ifCond .lt 31, 3) := by decide +kernel
theorem dX3_isStillThere_4 : decode cX3_isStillThere 4 = .ok (.iload_n 1, 1) := by decide +kernel
theorem dX3_isStillThere_5 : decode cX3_isStillThere 5 = .ok (.invokestatic 82, 3) := by decide +kernel
theorem dX3_isStillThere_8 : decode cX3_isStillThere 8 = .ok (.aload_n 0, 1) := by decide +kernel
theorem dX3_isStillThere_9 : decode cX3_isStillThere 9 = .ok (.getfield 45, 3) := by decide +kernel
theorem dX3_isStillThere_12 : decode cX3_isStillThere 12 = .ok (.if_icmp .ne 20, 3) := by decide +kernel
theorem dX3_isStillThere_15 : decode cX3_isStillThere 15 = .ok (.aload_n 0, 1) := by decide +kernel
theorem dX3_isStillThere_16 : decode cX3_isStillThere 16 = .ok (.getfield 48, 3) := by decide +kernel
theorem dX3_isStillThere_19 : decode cX3_isStillThere 19 = .ok (.iload_n 1, 1) := by decide +kernel
theorem dX3_isStillThere_20 : decode cX3_isStillThere 20 = .ok (.bipush 32, 2) := by decide +kernel
theorem dX3_isStillThere_22 : decode cX3_isStillThere 22 = .ok (.irem, 1) := by decide +kernel
theorem dX3_isStillThere_23 : decode cX3_isStillThere 23 = .ok (.iaload, 1) := by decide +kernel
theorem dX3_isStillThere_24 : decode cX3_isStillThere 24 = .ok (.iconst (-1), 1) := by decide +kernel
theorem dX3_isStillThere_25 : decode cX3_isStillThere 25 = .ok (.if_icmp .ne 7, 3) := by decide +kernel
theorem dX3_isStillThere_28 : decode cX3_isStillThere 28 = .ok (.iconst 1, 1) := by decide +kernel
theorem dX3_isStillThere_29 : decode cX3_isStillThere 29 = .ok (.goto 4, 3) := by decide +kernel
theorem dX3_isStillThere_32 : decode cX3_isStillThere 32 = .ok (.iconst 0, 1) := by decide +kernel
theorem dX3_isStillThere_33 : decode cX3_isStillThere 33 = .ok (.ireturn, 1) := by decide +kernel
set_option maxRecDepth 20000 in
theorem ggX3_moveWithOthers_X3_moveOne : GoodIn wsX3_moveWithOthers wsX3_moveOne := goodIn_r _ [10, 2, 3, 4, 11, 12, 13, 14, 15, 16, 9, 17, 18, 19, 20, 21, 22, 23, 24, 25, 26, 27, 28, 29, 30, 31, 32, 33, 34, 35, 36, 37, 38, 5, 39, 40, 41, 42, 43, 44, 45, 46, 47, 48, 49, 50, 51, 52, 53, 54, 55, 56, 57, 58, 59, 60, 61, 62, 63, 64, 65, 66, 67, 68, 69, 70, 71, 72, 73, 74, 75, 76, 77, 78, 79, 80, 81, 82, 83, 84, 85, 86, 87, 88, 89, 90, 91, 92, 93, 94, 95, 96, 97, 98, 99, 100, 101, 102, 103, 104, 108, 109, 110, 111, 112, 113, 114, 115, 116, 117, 118, 119, 120, 121, 122, 123, 124, 125, 126, 127, 128, 129] (by decide +kernel) (by decide +kernel)
set_option maxRecDepth 20000 in
theorem gX3_moveWithOthers_X3_moveOne : GoodIn wsX3_moveWithOthers (wsV RX3 163 RX3 yX3_moveOne wsX3_moveOne) := goodIn_app (goodIn_of _ (by decide +kernel)) ggX3_moveWithOthers_X3_moveOne
set_option maxRecDepth 20000 in
theorem ggX3_moveWithOthers_X0_references : GoodIn wsX3_moveWithOthers wsX0_references := goodIn_r _ [87, 30, 31, 32, 28, 33, 34, 121, 122, 123, 124, 125] (by decide +kernel) (by decide +kernel)
set_option maxRecDepth 20000 in
theorem gX3_moveWithOthers_X0_references : GoodIn wsX3_moveWithOthers (wsV RX3 166 RX0 yX0_references wsX0_references) := goodIn_app (goodIn_of _ (by decide +kernel)) ggX3_moveWithOthers_X0_references
set_option maxRecDepth 20000 in
theorem ggX3_moveWithOthers_X0_at : GoodIn wsX3_moveWithOthers wsX0_at := goodIn_r _ [33, 34, 121, 122, 123, 124, 125] (by decide +kernel) (by decide +kernel)
set_option maxRecDepth 20000 in
theorem gX3_moveWithOthers_X0_at : GoodIn wsX3_moveWithOthers (wsV RX3 79 RX0 yX0_at wsX0_at) := goodIn_app (goodIn_of _ (by decide +kernel)) ggX3_moveWithOthers_X0_at
set_option maxRecDepth 20000 in
theorem ggX3_moveWithOthers_X4_carOf : GoodIn wsX3_moveWithOthers wsX4_carOf := goodIn_r _ [21, 22, 23, 20, 24] (by decide +kernel) (by decide +kernel)
set_option maxRecDepth 20000 in
theorem gX3_moveWithOthers_X4_carOf_n82 : GoodIn wsX3_moveWithOthers (wsX4_carOf) := ggX3_moveWithOthers_X4_carOf
set_option maxRecDepth 20000 in
theorem ggX3_moveWithOthers_X1_trainOf : GoodIn wsX3_moveWithOthers wsX1_trainOf := goodIn_r _ [49, 50, 126, 127, 128, 129] (by decide +kernel) (by decide +kernel)
set_option maxRecDepth 20000 in
theorem gX3_moveWithOthers_X1_trainOf : GoodIn wsX3_moveWithOthers (wsV RX3 138 RX1 yX1_trainOf wsX1_trainOf) := goodIn_app (goodIn_of _ (by decide +kernel)) ggX3_moveWithOthers_X1_trainOf
theorem dX3_moveWithOthers_0 : decode cX3_moveWithOthers 0 = .ok (.aload_n 0, 1) := by decide +kernel
theorem dX3_moveWithOthers_1 : decode cX3_moveWithOthers 1 = .ok (.iload_n 1, 1) := by decide +kernel
theorem dX3_moveWithOthers_2 : decode cX3_moveWithOthers 2 = .ok (.iload_n 2, 1) := by decide +kernel
theorem dX3_moveWithOthers_3 : decode cX3_moveWithOthers 3 = .ok (.invokevirtual 163, 3) := by decide +kernel
theorem dX3_moveWithOthers_6 : decode cX3_moveWithOthers 6 = .ok (.aload_n 0, 1) := by decide +kernel
theorem dX3_moveWithOthers_7 : decode cX3_moveWithOthers 7 = .ok (.getfield 57, 3) := by decide +kernel
theorem dX3_moveWithOthers_10 : decode cX3_moveWithOthers 10 = .ok (.aload_n 0, 1) := by decide +kernel
theorem dX3_moveWithOthers_11 : decode cX3_moveWithOthers 11 = .ok (.getfield 54, 3) := by decide +kernel
theorem dX3_moveWithOthers_14 : decode cX3_moveWithOthers 14 = .ok (.if_icmp .ge 94, 3) := by decide +kernel
theorem dX3_moveWithOthers_17 : decode cX3_moveWithOthers 17 = .ok (.aload_n 0, 1) := by decide +kernel
theorem dX3_moveWithOthers_18 : decode cX3_moveWithOthers 18 = .ok (.getfield 57, 3) := by decide +kernel
theorem dX3_moveWithOthers_21 : decode cX3_moveWithOthers 21 = .ok (.aload_n 0, 1) := by decide +kernel
theorem dX3_moveWithOthers_22 : decode cX3_moveWithOthers 22 = .ok (.getfield 51, 3) := by decide +kernel
theorem dX3_moveWithOthers_25 : decode cX3_moveWithOthers 25 = .ok (.arraylength, 1) := by decide +kernel
theorem dX3_moveWithOthers_26 : decode cX3_moveWithOthers 26 = .ok (.if_icmp .ge 82, 3) := by decide +kernel
theorem dX3_moveWithOthers_29 : decode cX3_moveWithOthers 29 = .ok (.aload_n 0, 1) := by decide +kernel
theorem dX3_moveWithOthers_30 : decode cX3_moveWithOthers 30 = .ok (.getfield 51, 3) := by decide +kernel
theorem dX3_moveWithOthers_33 : decode cX3_moveWithOthers 33 = .ok (.aload_n 0, 1) := by decide +kernel
theorem dX3_moveWithOthers_34 : decode cX3_moveWithOthers 34 = .ok (.getfield 57, 3) := by decide +kernel
theorem dX3_moveWithOthers_37 : decode cX3_moveWithOthers 37 = .ok (.iaload, 1) := by decide +kernel
theorem dX3_moveWithOthers_38 : decode cX3_moveWithOthers 38 = .ok (.istore_n 3, 1) := by decide +kernel
theorem dX3_moveWithOthers_39 : decode cX3_moveWithOthers 39 = .ok (.iload_n 3, 1) := by decide +kernel
theorem dX3_moveWithOthers_40 : decode cX3_moveWithOthers 40 = .ok (.iconst 2, 1) := by decide +kernel
theorem dX3_moveWithOthers_41 : decode cX3_moveWithOthers 41 = .ok (.iadd, 1) := by decide +kernel
theorem dX3_moveWithOthers_42 : decode cX3_moveWithOthers 42 = .ok (.aload_n 0, 1) := by decide +kernel
theorem dX3_moveWithOthers_43 : decode cX3_moveWithOthers 43 = .ok (.getfield 12, 3) := by decide +kernel
theorem dX3_moveWithOthers_46 : decode cX3_moveWithOthers 46 = .ok (.iload_n 3, 1) := by decide +kernel
theorem dX3_moveWithOthers_47 : decode cX3_moveWithOthers 47 = .ok (.invokevirtual 166, 3) := by decide +kernel
theorem dX3_moveWithOthers_50 : decode cX3_moveWithOthers 50 = .ok (.iadd, 1) := by decide +kernel
theorem dX3_moveWithOthers_51 : decode cX3_moveWithOthers 51 = .ok (.istore 4, 2) := by decide +kernel
theorem dX3_moveWithOthers_53 : decode cX3_moveWithOthers 53 = .ok (.iload_n 3, 1) := by decide +kernel
theorem dX3_moveWithOthers_54 : decode cX3_moveWithOthers 54 = .ok (.iconst 2, 1) := by decide +kernel
theorem dX3_moveWithOthers_55 : decode cX3_moveWithOthers 55 = .ok (.iadd, 1) := by decide +kernel
theorem dX3_moveWithOthers_56 : decode cX3_moveWithOthers 56 = .ok (.istore 5, 2) := by decide +kernel
theorem dX3_moveWithOthers_58 : decode cX3_moveWithOthers 58 = .ok (.iload 5, 2) := by decide +kernel
theorem dX3_moveWithOthers_60 : decode cX3_moveWithOthers 60 = .ok (.iload 4, 2) := by decide +kernel
theorem dX3_moveWithOthers_62 : decode cX3_moveWithOthers 62 = .ok (.if_icmp .ge 33, 3) := by decide +kernel
theorem dX3_moveWithOthers_65 : decode cX3_moveWithOthers 65 = .ok (.aload_n 0, 1) := by decide +kernel
theorem dX3_moveWithOthers_66 : decode cX3_moveWithOthers 66 = .ok (.aload_n 0, 1) := by decide +kernel
theorem dX3_moveWithOthers_67 : decode cX3_moveWithOthers 67 = .ok (.getfield 12, 3) := by decide +kernel
theorem dX3_moveWithOthers_70 : decode cX3_moveWithOthers 70 = .ok (.iload 5, 2) := by decide +kernel
theorem dX3_moveWithOthers_72 : decode cX3_moveWithOthers 72 = .ok (.invokevirtual 79, 3) := by decide +kernel
theorem dX3_moveWithOthers_75 : decode cX3_moveWithOthers 75 = .ok (.aload_n 0, 1) := by decide +kernel
theorem dX3_moveWithOthers_76 : decode cX3_moveWithOthers 76 = .ok (.getfield 21, 3) := by decide +kernel
theorem dX3_moveWithOthers_79 : decode cX3_moveWithOthers 79 = .ok (.iload_n 3, 1) := by decide +kernel
theorem dX3_moveWithOthers_80 : decode cX3_moveWithOthers 80 = .ok (.invokestatic 82, 3) := by decide +kernel
theorem dX3_moveWithOthers_83 : decode cX3_moveWithOthers 83 = .ok (.invokevirtual 138, 3) := by decide +kernel
theorem dX3_moveWithOthers_86 : decode cX3_moveWithOthers 86 = .ok (.invokevirtual 163, 3) := by decide +kernel
theorem dX3_moveWithOthers_89 : decode cX3_moveWithOthers 89 = .ok (.iinc 5 1, 3) := by decide +kernel
theorem dX3_moveWithOthers_92 : decode cX3_moveWithOthers 92 = .ok (.goto (-34), 3) := by decide +kernel
theorem dX3_moveWithOthers_95 : decode cX3_moveWithOthers 95 = .ok (.aload_n 0, 1) := by decide +kernel
theorem dX3_moveWithOthers_96 : decode cX3_moveWithOthers 96 = .ok (.dup, 1) := by decide +kernel
theorem dX3_moveWithOthers_97 : decode cX3_moveWithOthers 97 = .ok (.getfield 57, 3) := by decide +kernel
theorem dX3_moveWithOthers_100 : decode cX3_moveWithOthers 100 = .ok (.iconst 1, 1) := by decide +kernel
theorem dX3_moveWithOthers_101 : decode cX3_moveWithOthers 101 = .ok (.iadd, 1) := by decide +kernel
theorem dX3_moveWithOthers_102 : decode cX3_moveWithOthers 102 = .ok (.putfield 57, 3) := by decide +kernel
theorem dX3_moveWithOthers_105 : decode cX3_moveWithOthers 105 = .ok (.goto (-99), 3) := by decide +kernel
theorem dX3_moveWithOthers_108 : decode cX3_moveWithOthers 108 = .ok (.return_, 1) := by decide +kernel
set_option maxRecDepth 20000 in
theorem ggX3_moveOne_X3_isStillThere : GoodIn wsX3_moveOne wsX3_isStillThere := goodIn_r _ [11, 12, 4, 13, 14, 15, 16, 17, 18, 100, 101, 102, 103, 104, 105, 106, 107, 108, 109, 110, 111, 112] (by decide +kernel) (by decide +kernel)
set_option maxRecDepth 20000 in
theorem gX3_moveOne_X3_isStillThere : GoodIn wsX3_moveOne (wsV RX3 157 RX3 yX3_isStillThere wsX3_isStillThere) := goodIn_app (goodIn_of _ (by decide +kernel)) ggX3_moveOne_X3_isStillThere
set_option maxRecDepth 20000 in
theorem ggX3_moveOne_X0_size : GoodIn wsX3_moveOne wsX0_size := goodIn_r _ [23, 24, 25, 26, 22, 27, 28, 113, 114, 115, 116, 117] (by decide +kernel) (by decide +kernel)
set_option maxRecDepth 20000 in
theorem gX3_moveOne_X0_size : GoodIn wsX3_moveOne (wsV RX3 169 RX0 yX0_size wsX0_size) := goodIn_app (goodIn_of _ (by decide +kernel)) ggX3_moveOne_X0_size
set_option maxRecDepth 20000 in
theorem ggX3_moveOne_X3_carInto : GoodIn wsX3_moveOne wsX3_carInto := goodIn_r _ [32, 33, 34, 35, 36, 37, 38, 39, 40, 41, 42, 43, 44, 45, 46, 47, 48, 10, 49, 12, 3, 50, 51, 52, 22, 53, 54, 55, 56, 57, 58, 59, 60, 61, 62, 63, 64, 65, 66, 67, 68, 69, 70, 100, 101, 102, 103, 104, 105, 106, 107, 108, 109, 110, 111, 112, 118, 119, 120, 121, 113, 114, 115, 116, 117] (by decide +kernel) (by decide +kernel)
set_option maxRecDepth 20000 in
theorem gX3_moveOne_X3_carInto : GoodIn wsX3_moveOne (wsV RX3 172 RX3 yX3_carInto wsX3_carInto) := goodIn_app (goodIn_of _ (by decide +kernel)) ggX3_moveOne_X3_carInto
set_option maxRecDepth 20000 in
theorem ggX3_moveOne_X0_bring : GoodIn wsX3_moveOne wsX0_bring := goodIn_r _ [74, 75, 76, 77, 22, 78, 24, 25, 26, 27, 28, 79, 80, 81, 82, 83, 84, 85, 86, 87, 88, 89, 90, 54, 91, 92, 93, 94, 51, 52, 53, 95, 96, 97, 98, 99, 20, 21, 23, 113, 114, 115, 116, 117] (by decide +kernel) (by decide +kernel)
set_option maxRecDepth 20000 in
theorem gX3_moveOne_X0_bring : GoodIn wsX3_moveOne (wsV RX3 175 RX0 yX0_bring wsX0_bring) := goodIn_app (goodIn_of _ (by decide +kernel)) ggX3_moveOne_X0_bring
theorem dX3_moveOne_0 : decode cX3_moveOne 0 = .ok (.aload_n 0, 1) := by decide +kernel
theorem dX3_moveOne_1 : decode cX3_moveOne 1 = .ok (.iload_n 1, 1) := by decide +kernel
theorem dX3_moveOne_2 : decode cX3_moveOne 2 = .ok (.invokevirtual 157, 3) := by decide +kernel
theorem dX3_moveOne_5 : decode cX3_moveOne 5 = .ok (.ifCond .eq 15, 3) := by decide +kernel
theorem dX3_moveOne_8 : decode cX3_moveOne 8 = .ok (.aload_n 0, 1) := by decide +kernel
theorem dX3_moveOne_9 : decode cX3_moveOne 9 = .ok (.getfield 54, 3) := by decide +kernel
theorem dX3_moveOne_12 : decode cX3_moveOne 12 = .ok (.aload_n 0, 1) := by decide +kernel
theorem dX3_moveOne_13 : decode cX3_moveOne 13 = .ok (.getfield 51, 3) := by decide +kernel
theorem dX3_moveOne_16 : decode cX3_moveOne 16 = .ok (.arraylength, 1) := by decide +kernel
theorem dX3_moveOne_17 : decode cX3_moveOne 17 = .ok (.if_icmp .lt 4, 3) := by decide +kernel
theorem dX3_moveOne_20 : decode cX3_moveOne 20 = .ok (.return_, 1) := by decide +kernel
theorem dX3_moveOne_21 : decode cX3_moveOne 21 = .ok (.aload_n 0, 1) := by decide +kernel
theorem dX3_moveOne_22 : decode cX3_moveOne 22 = .ok (.getfield 12, 3) := by decide +kernel
theorem dX3_moveOne_25 : decode cX3_moveOne 25 = .ok (.iload_n 1, 1) := by decide +kernel
theorem dX3_moveOne_26 : decode cX3_moveOne 26 = .ok (.invokevirtual 169, 3) := by decide +kernel
theorem dX3_moveOne_29 : decode cX3_moveOne 29 = .ok (.istore_n 3, 1) := by decide +kernel
theorem dX3_moveOne_30 : decode cX3_moveOne 30 = .ok (.aload_n 0, 1) := by decide +kernel
theorem dX3_moveOne_31 : decode cX3_moveOne 31 = .ok (.getfield 12, 3) := by decide +kernel
theorem dX3_moveOne_34 : decode cX3_moveOne 34 = .ok (.iload_n 1, 1) := by decide +kernel
theorem dX3_moveOne_35 : decode cX3_moveOne 35 = .ok (.aload_n 0, 1) := by decide +kernel
theorem dX3_moveOne_36 : decode cX3_moveOne 36 = .ok (.iload_n 2, 1) := by decide +kernel
theorem dX3_moveOne_37 : decode cX3_moveOne 37 = .ok (.iload_n 3, 1) := by decide +kernel
theorem dX3_moveOne_38 : decode cX3_moveOne 38 = .ok (.invokevirtual 172, 3) := by decide +kernel
theorem dX3_moveOne_41 : decode cX3_moveOne 41 = .ok (.invokevirtual 175, 3) := by decide +kernel
theorem dX3_moveOne_44 : decode cX3_moveOne 44 = .ok (.istore 4, 2) := by decide +kernel
theorem dX3_moveOne_46 : decode cX3_moveOne 46 = .ok (.iload 4, 2) := by decide +kernel
theorem dX3_moveOne_48 : decode cX3_moveOne 48 = .ok (.iconst (-1), 1) := by decide +kernel
theorem dX3_moveOne_49 : decode cX3_moveOne 49 = .ok (.if_icmp .ne 4, 3) := by decide +kernel
theorem dX3_moveOne_52 : decode cX3_moveOne 52 = .ok (.return_, 1) := by decide +kernel
theorem dX3_moveOne_53 : decode cX3_moveOne 53 = .ok (.aload_n 0, 1) := by decide +kernel
theorem dX3_moveOne_54 : decode cX3_moveOne 54 = .ok (.getfield 48, 3) := by decide +kernel
theorem dX3_moveOne_57 : decode cX3_moveOne 57 = .ok (.iload_n 1, 1) := by decide +kernel
theorem dX3_moveOne_58 : decode cX3_moveOne 58 = .ok (.bipush 32, 2) := by decide +kernel
theorem dX3_moveOne_60 : decode cX3_moveOne 60 = .ok (.irem, 1) := by decide +kernel
theorem dX3_moveOne_61 : decode cX3_moveOne 61 = .ok (.iload 4, 2) := by decide +kernel
theorem dX3_moveOne_63 : decode cX3_moveOne 63 = .ok (.iastore, 1) := by decide +kernel
theorem dX3_moveOne_64 : decode cX3_moveOne 64 = .ok (.aload_n 0, 1) := by decide +kernel
theorem dX3_moveOne_65 : decode cX3_moveOne 65 = .ok (.getfield 51, 3) := by decide +kernel
theorem dX3_moveOne_68 : decode cX3_moveOne 68 = .ok (.aload_n 0, 1) := by decide +kernel
theorem dX3_moveOne_69 : decode cX3_moveOne 69 = .ok (.getfield 54, 3) := by decide +kernel
theorem dX3_moveOne_72 : decode cX3_moveOne 72 = .ok (.iload 4, 2) := by decide +kernel
theorem dX3_moveOne_74 : decode cX3_moveOne 74 = .ok (.iastore, 1) := by decide +kernel
theorem dX3_moveOne_75 : decode cX3_moveOne 75 = .ok (.aload_n 0, 1) := by decide +kernel
theorem dX3_moveOne_76 : decode cX3_moveOne 76 = .ok (.dup, 1) := by decide +kernel
theorem dX3_moveOne_77 : decode cX3_moveOne 77 = .ok (.getfield 54, 3) := by decide +kernel
theorem dX3_moveOne_80 : decode cX3_moveOne 80 = .ok (.iconst 1, 1) := by decide +kernel
theorem dX3_moveOne_81 : decode cX3_moveOne 81 = .ok (.iadd, 1) := by decide +kernel
theorem dX3_moveOne_82 : decode cX3_moveOne 82 = .ok (.putfield 54, 3) := by decide +kernel
theorem dX3_moveOne_85 : decode cX3_moveOne 85 = .ok (.aload_n 0, 1) := by decide +kernel
theorem dX3_moveOne_86 : decode cX3_moveOne 86 = .ok (.dup, 1) := by decide +kernel
theorem dX3_moveOne_87 : decode cX3_moveOne 87 = .ok (.getfield 39, 3) := by decide +kernel
theorem dX3_moveOne_90 : decode cX3_moveOne 90 = .ok (.iconst 1, 1) := by decide +kernel
theorem dX3_moveOne_91 : decode cX3_moveOne 91 = .ok (.iadd, 1) := by decide +kernel
theorem dX3_moveOne_92 : decode cX3_moveOne 92 = .ok (.putfield 39, 3) := by decide +kernel
theorem dX3_moveOne_95 : decode cX3_moveOne 95 = .ok (.aload_n 0, 1) := by decide +kernel
theorem dX3_moveOne_96 : decode cX3_moveOne 96 = .ok (.dup, 1) := by decide +kernel
theorem dX3_moveOne_97 : decode cX3_moveOne 97 = .ok (.getfield 42, 3) := by decide +kernel
theorem dX3_moveOne_100 : decode cX3_moveOne 100 = .ok (.iload_n 3, 1) := by decide +kernel
theorem dX3_moveOne_101 : decode cX3_moveOne 101 = .ok (.iadd, 1) := by decide +kernel
theorem dX3_moveOne_102 : decode cX3_moveOne 102 = .ok (.putfield 42, 3) := by decide +kernel
theorem dX3_moveOne_105 : decode cX3_moveOne 105 = .ok (.return_, 1) := by decide +kernel
set_option maxRecDepth 20000 in
theorem ggX3_carInto_X1_lastCarOf : GoodIn wsX3_carInto wsX1_lastCarOf := goodIn_r _ [6, 7, 8, 9, 10, 11, 5, 12, 13, 56, 57, 58, 59] (by decide +kernel) (by decide +kernel)
set_option maxRecDepth 20000 in
theorem gX3_carInto_X1_lastCarOf : GoodIn wsX3_carInto (wsV RX3 178 RX1 yX1_lastCarOf wsX1_lastCarOf) := goodIn_app (goodIn_of _ (by decide +kernel)) ggX3_carInto_X1_lastCarOf
set_option maxRecDepth 20000 in
theorem ggX3_carInto_X3_roomInStep : GoodIn wsX3_carInto wsX3_roomInStep := goodIn_r _ [18, 19, 20, 21, 22, 23, 24, 25, 26, 43, 44, 45, 46, 47, 48, 49, 50, 51, 52, 53, 54, 55, 60, 61, 62, 63, 64] (by decide +kernel) (by decide +kernel)
set_option maxRecDepth 20000 in
theorem gX3_carInto_X3_roomInStep : GoodIn wsX3_carInto (wsV RX3 181 RX3 yX3_roomInStep wsX3_roomInStep) := goodIn_app (goodIn_of _ (by decide +kernel)) ggX3_carInto_X3_roomInStep
set_option maxRecDepth 20000 in
theorem ggX3_carInto_X1_countFree : GoodIn wsX3_carInto wsX1_countFree := goodIn_r _ [30, 7, 56, 57, 58, 59] (by decide +kernel) (by decide +kernel)
set_option maxRecDepth 20000 in
theorem gX3_carInto_X1_countFree : GoodIn wsX3_carInto (wsV RX3 99 RX1 yX1_countFree wsX1_countFree) := goodIn_app (goodIn_of _ (by decide +kernel)) ggX3_carInto_X1_countFree
set_option maxRecDepth 20000 in
theorem ggX3_carInto_X1_addCar : GoodIn wsX3_carInto wsX1_addCar := goodIn_r _ [34, 7, 8, 13, 35, 36, 37, 5, 38, 9, 10, 11, 12, 56, 57, 58, 59] (by decide +kernel) (by decide +kernel)
set_option maxRecDepth 20000 in
theorem gX3_carInto_X1_addCar : GoodIn wsX3_carInto (wsV RX3 112 RX1 yX1_addCar wsX1_addCar) := goodIn_app (goodIn_of _ (by decide +kernel)) ggX3_carInto_X1_addCar
set_option maxRecDepth 20000 in
theorem ggX3_carInto_X1_carAt : GoodIn wsX3_carInto wsX1_carAt := goodIn_r _ [42, 7, 8, 56, 57, 58, 59] (by decide +kernel) (by decide +kernel)
set_option maxRecDepth 20000 in
theorem gX3_carInto_X1_carAt : GoodIn wsX3_carInto (wsV RX3 66 RX1 yX1_carAt wsX1_carAt) := goodIn_app (goodIn_of _ (by decide +kernel)) ggX3_carInto_X1_carAt
theorem dX3_carInto_0 : decode cX3_carInto 0 = .ok (.aload_n 0, 1) := by decide +kernel
theorem dX3_carInto_1 : decode cX3_carInto 1 = .ok (.getfield 21, 3) := by decide +kernel
theorem dX3_carInto_4 : decode cX3_carInto 4 = .ok (.iload_n 1, 1) := by decide +kernel
theorem dX3_carInto_5 : decode cX3_carInto 5 = .ok (.invokevirtual 178, 3) := by decide +kernel
theorem dX3_carInto_8 : decode cX3_carInto 8 = .ok (.istore_n 3, 1) := by decide +kernel
theorem dX3_carInto_9 : decode cX3_carInto 9 = .ok (.aload_n 0, 1) := by decide +kernel
theorem dX3_carInto_10 : decode cX3_carInto 10 = .ok (.iload_n 3, 1) := by decide +kernel
theorem dX3_carInto_11 : decode cX3_carInto 11 = .ok (.invokevirtual 181, 3) := by decide +kernel
theorem dX3_carInto_14 : decode cX3_carInto 14 = .ok (.iload_n 2, 1) := by decide +kernel
theorem dX3_carInto_15 : decode cX3_carInto 15 = .ok (.if_icmp .lt 5, 3) := by decide +kernel
theorem dX3_carInto_18 : decode cX3_carInto 18 = .ok (.iload_n 3, 1) := by decide +kernel
theorem dX3_carInto_19 : decode cX3_carInto 19 = .ok (.ireturn, 1) := by decide +kernel
theorem dX3_carInto_20 : decode cX3_carInto 20 = .ok (.aload_n 0, 1) := by decide +kernel
theorem dX3_carInto_21 : decode cX3_carInto 21 = .ok (.getfield 21, 3) := by decide +kernel
theorem dX3_carInto_24 : decode cX3_carInto 24 = .ok (.invokevirtual 99, 3) := by decide +kernel
theorem dX3_carInto_27 : decode cX3_carInto 27 = .ok (.ifCond .le 12, 3) := by decide +kernel
theorem dX3_carInto_30 : decode cX3_carInto 30 = .ok (.aload_n 0, 1) := by decide +kernel
theorem dX3_carInto_31 : decode cX3_carInto 31 = .ok (.getfield 21, 3) := by decide +kernel
theorem dX3_carInto_34 : decode cX3_carInto 34 = .ok (.iload_n 1, 1) := by decide +kernel
theorem dX3_carInto_35 : decode cX3_carInto 35 = .ok (.invokevirtual 112, 3) := by decide +kernel
theorem dX3_carInto_38 : decode cX3_carInto 38 = .ok (.ireturn, 1) := by decide +kernel
theorem dX3_carInto_39 : decode cX3_carInto 39 = .ok (.aload_n 0, 1) := by decide +kernel
theorem dX3_carInto_40 : decode cX3_carInto 40 = .ok (.getfield 21, 3) := by decide +kernel
theorem dX3_carInto_43 : decode cX3_carInto 43 = .ok (.getfield 89, 3) := by decide +kernel
theorem dX3_carInto_46 : decode cX3_carInto 46 = .ok (.iconst 1, 1) := by decide +kernel
theorem dX3_carInto_47 : decode cX3_carInto 47 = .ok (.isub, 1) := by decide +kernel
theorem dX3_carInto_48 : decode cX3_carInto 48 = .ok (.istore 4, 2) := by decide +kernel
theorem dX3_carInto_50 : decode cX3_carInto 50 = .ok (.iload 4, 2) := by decide +kernel
theorem dX3_carInto_52 : decode cX3_carInto 52 = .ok (.ifCond .lt 36, 3) := by decide +kernel
theorem dX3_carInto_55 : decode cX3_carInto 55 = .ok (.aload_n 0, 1) := by decide +kernel
theorem dX3_carInto_56 : decode cX3_carInto 56 = .ok (.aload_n 0, 1) := by decide +kernel
theorem dX3_carInto_57 : decode cX3_carInto 57 = .ok (.getfield 21, 3) := by decide +kernel
theorem dX3_carInto_60 : decode cX3_carInto 60 = .ok (.iload 4, 2) := by decide +kernel
theorem dX3_carInto_62 : decode cX3_carInto 62 = .ok (.invokevirtual 66, 3) := by decide +kernel
theorem dX3_carInto_65 : decode cX3_carInto 65 = .ok (.invokevirtual 181, 3) := by decide +kernel
theorem dX3_carInto_68 : decode cX3_carInto 68 = .ok (.iload_n 2, 1) := by decide +kernel
theorem dX3_carInto_69 : decode cX3_carInto 69 = .ok (.if_icmp .lt 13, 3) := by decide +kernel
theorem dX3_carInto_72 : decode cX3_carInto 72 = .ok (.aload_n 0, 1) := by decide +kernel
theorem dX3_carInto_73 : decode cX3_carInto 73 = .ok (.getfield 21, 3) := by decide +kernel
theorem dX3_carInto_76 : decode cX3_carInto 76 = .ok (.iload 4, 2) := by decide +kernel
theorem dX3_carInto_78 : decode cX3_carInto 78 = .ok (.invokevirtual 66, 3) := by decide +kernel
theorem dX3_carInto_81 : decode cX3_carInto 81 = .ok (.ireturn, 1) := by decide +kernel
theorem dX3_carInto_82 : decode cX3_carInto 82 = .ok (.iinc 4 (-1), 3) := by decide +kernel
theorem dX3_carInto_85 : decode cX3_carInto 85 = .ok (.goto (-35), 3) := by decide +kernel
theorem dX3_carInto_88 : decode cX3_carInto 88 = .ok (.iconst (-1), 1) := by decide +kernel
theorem dX3_carInto_89 : decode cX3_carInto 89 = .ok (.ireturn, 1) := by decide +kernel
set_option maxRecDepth 20000 in
theorem ggX3_roomInStep_X0_room : GoodIn wsX3_roomInStep wsX0_room := goodIn_r _ [7, 8, 22, 23, 24, 25, 26] (by decide +kernel) (by decide +kernel)
set_option maxRecDepth 20000 in
theorem gX3_roomInStep_X0_room : GoodIn wsX3_roomInStep (wsV RX3 92 RX0 yX0_room wsX0_room) := goodIn_app (goodIn_of _ (by decide +kernel)) ggX3_roomInStep_X0_room
theorem dX3_roomInStep_0 : decode cX3_roomInStep 0 = .ok (.iload_n 1, 1) := by decide +kernel
theorem dX3_roomInStep_1 : decode cX3_roomInStep 1 = .ok (.aload_n 0, 1) := by decide +kernel
theorem dX3_roomInStep_2 : decode cX3_roomInStep 2 = .ok (.getfield 45, 3) := by decide +kernel
theorem dX3_roomInStep_5 : decode cX3_roomInStep 5 = .ok (.if_icmp .ne 7, 3) := by decide +kernel
theorem dX3_roomInStep_8 : decode cX3_roomInStep 8 = .ok (.iconst 0, 1) := by decide +kernel
theorem dX3_roomInStep_9 : decode cX3_roomInStep 9 = .ok (.goto 11, 3) := by decide +kernel
theorem dX3_roomInStep_12 : decode cX3_roomInStep 12 = .ok (.aload_n 0, 1) := by decide +kernel
theorem dX3_roomInStep_13 : decode cX3_roomInStep 13 = .ok (.getfield 12, 3) := by decide +kernel
theorem dX3_roomInStep_16 : decode cX3_roomInStep 16 = .ok (.iload_n 1, 1) := by decide +kernel
theorem dX3_roomInStep_17 : decode cX3_roomInStep 17 = .ok (.invokevirtual 92, 3) := by decide +kernel
theorem dX3_roomInStep_20 : decode cX3_roomInStep 20 = .ok (.ireturn, 1) := by decide +kernel
set_option maxRecDepth 20000 in
theorem ggX4_init_X3_init : GoodIn wsX4_init wsX3_init := goodIn_r _ [16, 17, 2, 3, 18, 19, 20, 21, 22, 23, 24, 25, 26, 27, 28, 29, 30, 31, 32, 33, 34, 35, 36, 37, 38, 39, 40, 41, 42, 43, 44, 45, 46, 47, 48, 49, 50, 51, 52, 53, 54, 55, 56, 57, 86, 87, 88, 89, 90, 65, 66, 67, 68, 69, 70, 71, 72, 73, 74, 75, 76, 77, 91, 92, 93, 94] (by decide +kernel) (by decide +kernel)
set_option maxRecDepth 20000 in
theorem gX4_init_X3_init : GoodIn wsX4_init (wsX3_init) := ggX4_init_X3_init
set_option maxRecDepth 20000 in
theorem ggX4_init_X2_init : GoodIn wsX4_init wsX2_init := goodIn_r _ [59, 60, 2, 3, 26, 61, 62, 63, 64, 82, 83, 84, 85] (by decide +kernel) (by decide +kernel)
set_option maxRecDepth 20000 in
theorem gX4_init_X2_init_n18 : GoodIn wsX4_init (wsX2_init) := ggX4_init_X2_init
