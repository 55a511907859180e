theorem dX0_init_0 : decode cX0_init 0 = .ok (.aload_n 0, 1) := by decide +kernel
theorem dX0_init_1 : decode cX0_init 1 = .ok (.invokespecial 3, 3) := by decide +kernel
theorem dX0_init_4 : decode cX0_init 4 = .ok (.aload_n 0, 1) := by decide +kernel
theorem dX0_init_5 : decode cX0_init 5 = .ok (.sipush 1280, 3) := by decide +kernel
theorem dX0_init_8 : decode cX0_init 8 = .ok (.newarray .int, 2) := by decide +kernel
theorem dX0_init_10 : decode cX0_init 10 = .ok (.putfield 9, 3) := by decide +kernel
theorem dX0_init_13 : decode cX0_init 13 = .ok (.aload_n 0, 1) := by decide +kernel
theorem dX0_init_14 : decode cX0_init 14 = .ok (.sipush 1280, 3) := by decide +kernel
theorem dX0_init_17 : decode cX0_init 17 = .ok (.newarray .boolean, 2) := by decide +kernel
theorem dX0_init_19 : decode cX0_init 19 = .ok (.putfield 15, 3) := by decide +kernel
theorem dX0_init_22 : decode cX0_init 22 = .ok (.aload_n 0, 1) := by decide +kernel
theorem dX0_init_23 : decode cX0_init 23 = .ok (.bipush 40, 2) := by decide +kernel
theorem dX0_init_25 : decode cX0_init 25 = .ok (.newarray .int, 2) := by decide +kernel
theorem dX0_init_27 : decode cX0_init 27 = .ok (.putfield 19, 3) := by decide +kernel
theorem dX0_init_30 : decode cX0_init 30 = .ok (.aload_n 0, 1) := by decide +kernel
theorem dX0_init_31 : decode cX0_init 31 = .ok (.bipush 40, 2) := by decide +kernel
theorem dX0_init_33 : decode cX0_init 33 = .ok (.newarray .int, 2) := by decide +kernel
theorem dX0_init_35 : decode cX0_init 35 = .ok (.putfield 22, 3) := by decide +kernel
theorem dX0_init_38 : decode cX0_init 38 = .ok (.aload_n 0, 1) := by decide +kernel
theorem dX0_init_39 : decode cX0_init 39 = .ok (.bipush 40, 2) := by decide +kernel
theorem dX0_init_41 : decode cX0_init 41 = .ok (.newarray .int, 2) := by decide +kernel
theorem dX0_init_43 : decode cX0_init 43 = .ok (.putfield 25, 3) := by decide +kernel
theorem dX0_init_46 : decode cX0_init 46 = .ok (.return_, 1) := by decide +kernel
theorem dX0_at_0 : decode cX0_at 0 = .ok (.iload_n 1, 1) := by decide +kernel
theorem dX0_at_1 : decode cX0_at 1 = .ok (.ifCond .lt 19, 3) := by decide +kernel
theorem dX0_at_4 : decode cX0_at 4 = .ok (.iload_n 1, 1) := by decide +kernel
theorem dX0_at_5 : decode cX0_at 5 = .ok (.sipush 1280, 3) := by decide +kernel
theorem dX0_at_8 : decode cX0_at 8 = .ok (.if_icmp .ge 12, 3) := by decide +kernel
theorem dX0_at_11 : decode cX0_at 11 = .ok (.aload_n 0, 1) := by decide +kernel
theorem dX0_at_12 : decode cX0_at 12 = .ok (.getfield 9, 3) := by decide +kernel
theorem dX0_at_15 : decode cX0_at 15 = .ok (.iload_n 1, 1) := by decide +kernel
theorem dX0_at_16 : decode cX0_at 16 = .ok (.iaload, 1) := by decide +kernel
theorem dX0_at_17 : decode cX0_at 17 = .ok (.goto 4, 3) := by decide +kernel
theorem dX0_at_20 : decode cX0_at 20 = .ok (.iconst 0, 1) := by decide +kernel
theorem dX0_at_21 : decode cX0_at 21 = .ok (.ireturn, 1) := by decide +kernel
theorem dX0_write_0 : decode cX0_write 0 = .ok (.iload_n 1, 1) := by decide +kernel
theorem dX0_write_1 : decode cX0_write 1 = .ok (.ifCond .lt 17, 3) := by decide +kernel
theorem dX0_write_4 : decode cX0_write 4 = .ok (.iload_n 1, 1) := by decide +kernel
theorem dX0_write_5 : decode cX0_write 5 = .ok (.sipush 1280, 3) := by decide +kernel
theorem dX0_write_8 : decode cX0_write 8 = .ok (.if_icmp .ge 10, 3) := by decide +kernel
theorem dX0_write_11 : decode cX0_write 11 = .ok (.aload_n 0, 1) := by decide +kernel
theorem dX0_write_12 : decode cX0_write 12 = .ok (.getfield 9, 3) := by decide +kernel
theorem dX0_write_15 : decode cX0_write 15 = .ok (.iload_n 1, 1) := by decide +kernel
theorem dX0_write_16 : decode cX0_write 16 = .ok (.iload_n 2, 1) := by decide +kernel
theorem dX0_write_17 : decode cX0_write 17 = .ok (.iastore, 1) := by decide +kernel
theorem dX0_write_18 : decode cX0_write 18 = .ok (.return_, 1) := by decide +kernel
set_option maxRecDepth 20000 in
theorem ggX0_labelOf_X0_at : GoodIn wsX0_labelOf wsX0_at := goodIn_r _ [5, 6, 7, 8, 9, 10, 11] (by decide +kernel) (by decide +kernel)
set_option maxRecDepth 20000 in
theorem gX0_labelOf_X0_at : GoodIn wsX0_labelOf (wsV RX0 28 RX0 yX0_at wsX0_at) := goodIn_app (goodIn_of _ (by decide +kernel)) ggX0_labelOf_X0_at
theorem dX0_labelOf_0 : decode cX0_labelOf 0 = .ok (.aload_n 0, 1) := by decide +kernel
theorem dX0_labelOf_1 : decode cX0_labelOf 1 = .ok (.iload_n 1, 1) := by decide +kernel
theorem dX0_labelOf_2 : decode cX0_labelOf 2 = .ok (.invokevirtual 28, 3) := by decide +kernel
theorem dX0_labelOf_5 : decode cX0_labelOf 5 = .ok (.ireturn, 1) := by decide +kernel
set_option maxRecDepth 20000 in
theorem ggX0_references_X0_at : GoodIn wsX0_references wsX0_at := goodIn_r _ [5, 6, 7, 8, 9, 10, 11] (by decide +kernel) (by decide +kernel)
set_option maxRecDepth 20000 in
theorem gX0_references_X0_at : GoodIn wsX0_references (wsV RX0 28 RX0 yX0_at wsX0_at) := goodIn_app (goodIn_of _ (by decide +kernel)) ggX0_references_X0_at
theorem dX0_references_0 : decode cX0_references 0 = .ok (.aload_n 0, 1) := by decide +kernel
theorem dX0_references_1 : decode cX0_references 1 = .ok (.iload_n 1, 1) := by decide +kernel
theorem dX0_references_2 : decode cX0_references 2 = .ok (.iconst 1, 1) := by decide +kernel
theorem dX0_references_3 : decode cX0_references 3 = .ok (.iadd, 1) := by decide +kernel
theorem dX0_references_4 : decode cX0_references 4 = .ok (.invokevirtual 28, 3) := by decide +kernel
theorem dX0_references_7 : decode cX0_references 7 = .ok (.bipush 16, 2) := by decide +kernel
theorem dX0_references_9 : decode cX0_references 9 = .ok (.irem, 1) := by decide +kernel
theorem dX0_references_10 : decode cX0_references 10 = .ok (.ireturn, 1) := by decide +kernel
set_option maxRecDepth 20000 in
theorem ggX0_numbers_X0_at : GoodIn wsX0_numbers wsX0_at := goodIn_r _ [5, 6, 7, 8, 9, 10, 11] (by decide +kernel) (by decide +kernel)
set_option maxRecDepth 20000 in
theorem gX0_numbers_X0_at : GoodIn wsX0_numbers (wsV RX0 28 RX0 yX0_at wsX0_at) := goodIn_app (goodIn_of _ (by decide +kernel)) ggX0_numbers_X0_at
theorem dX0_numbers_0 : decode cX0_numbers 0 = .ok (.aload_n 0, 1) := by decide +kernel
theorem dX0_numbers_1 : decode cX0_numbers 1 = .ok (.iload_n 1, 1) := by decide +kernel
theorem dX0_numbers_2 : decode cX0_numbers 2 = .ok (.iconst 1, 1) := by decide +kernel
theorem dX0_numbers_3 : decode cX0_numbers 3 = .ok (.iadd, 1) := by decide +kernel
theorem dX0_numbers_4 : decode cX0_numbers 4 = .ok (.invokevirtual 28, 3) := by decide +kernel
theorem dX0_numbers_7 : decode cX0_numbers 7 = .ok (.bipush 16, 2) := by decide +kernel
theorem dX0_numbers_9 : decode cX0_numbers 9 = .ok (.idiv, 1) := by decide +kernel
theorem dX0_numbers_10 : decode cX0_numbers 10 = .ok (.ireturn, 1) := by decide +kernel
set_option maxRecDepth 20000 in
theorem ggX0_size_X0_at : GoodIn wsX0_size wsX0_at := goodIn_r _ [5, 6, 7, 8, 9, 10, 11] (by decide +kernel) (by decide +kernel)
set_option maxRecDepth 20000 in
theorem gX0_size_X0_at : GoodIn wsX0_size (wsV RX0 28 RX0 yX0_at wsX0_at) := goodIn_app (goodIn_of _ (by decide +kernel)) ggX0_size_X0_at
theorem dX0_size_0 : decode cX0_size 0 = .ok (.aload_n 0, 1) := by decide +kernel
theorem dX0_size_1 : decode cX0_size 1 = .ok (.iload_n 1, 1) := by decide +kernel
theorem dX0_size_2 : decode cX0_size 2 = .ok (.iconst 1, 1) := by decide +kernel
theorem dX0_size_3 : decode cX0_size 3 = .ok (.iadd, 1) := by decide +kernel
theorem dX0_size_4 : decode cX0_size 4 = .ok (.invokevirtual 28, 3) := by decide +kernel
theorem dX0_size_7 : decode cX0_size 7 = .ok (.istore_n 2, 1) := by decide +kernel
theorem dX0_size_8 : decode cX0_size 8 = .ok (.iconst 2, 1) := by decide +kernel
theorem dX0_size_9 : decode cX0_size 9 = .ok (.iload_n 2, 1) := by decide +kernel
theorem dX0_size_10 : decode cX0_size 10 = .ok (.bipush 16, 2) := by decide +kernel
theorem dX0_size_12 : decode cX0_size 12 = .ok (.irem, 1) := by decide +kernel
theorem dX0_size_13 : decode cX0_size 13 = .ok (.iadd, 1) := by decide +kernel
theorem dX0_size_14 : decode cX0_size 14 = .ok (.iload_n 2, 1) := by decide +kernel
theorem dX0_size_15 : decode cX0_size 15 = .ok (.bipush 16, 2) := by decide +kernel
theorem dX0_size_17 : decode cX0_size 17 = .ok (.idiv, 1) := by decide +kernel
theorem dX0_size_18 : decode cX0_size 18 = .ok (.iadd, 1) := by decide +kernel
theorem dX0_size_19 : decode cX0_size 19 = .ok (.ireturn, 1) := by decide +kernel
theorem dX0_room_0 : decode cX0_room 0 = .ok (.iload_n 1, 1) := by decide +kernel
theorem dX0_room_1 : decode cX0_room 1 = .ok (.ifCond .lt 21, 3) := by decide +kernel
theorem dX0_room_4 : decode cX0_room 4 = .ok (.iload_n 1, 1) := by decide +kernel
theorem dX0_room_5 : decode cX0_room 5 = .ok (.bipush 40, 2) := by decide +kernel
theorem dX0_room_7 : decode cX0_room 7 = .ok (.if_icmp .ge 15, 3) := by decide +kernel
theorem dX0_room_10 : decode cX0_room 10 = .ok (.bipush 32, 2) := by decide +kernel
theorem dX0_room_12 : decode cX0_room 12 = .ok (.aload_n 0, 1) := by decide +kernel
theorem dX0_room_13 : decode cX0_room 13 = .ok (.getfield 19, 3) := by decide +kernel
theorem dX0_room_16 : decode cX0_room 16 = .ok (.iload_n 1, 1) := by decide +kernel
theorem dX0_room_17 : decode cX0_room 17 = .ok (.iaload, 1) := by decide +kernel
theorem dX0_room_18 : decode cX0_room 18 = .ok (.isub, 1) := by decide +kernel
theorem dX0_room_19 : decode cX0_room 19 = .ok (.goto 4, 3) := by decide +kernel
theorem dX0_room_22 : decode cX0_room 22 = .ok (.iconst 0, 1) := by decide +kernel
theorem dX0_room_23 : decode cX0_room 23 = .ok (.ireturn, 1) := by decide +kernel
set_option maxRecDepth 20000 in
theorem ggX0_things_X4_isCar : GoodIn wsX0_things wsX4_isCar := goodIn_r _ [4] (by decide +kernel) (by decide +kernel)
set_option maxRecDepth 20000 in
theorem gX0_things_X4_isCar_n32 : GoodIn wsX0_things (wsX4_isCar) := ggX0_things_X4_isCar
theorem dX0_things_0 : decode cX0_things 0 = .ok (.iload_n 1, 1) := by decide +kernel
theorem dX0_things_1 : decode cX0_things 1 = .ok (.invokestatic 32, 3) := by decide +kernel
theorem dX0_things_4 : decode cX0_things 4 = .ok (.ifCond .eq 12, 3) := by decide +kernel
theorem dX0_things_7 : decode cX0_things 7 = .ok (.aload_n 0, 1) := by decide +kernel
theorem dX0_things_8 : decode cX0_things 8 = .ok (.getfield 22, 3) := by decide +kernel
theorem dX0_things_11 : decode cX0_things 11 = .ok (.iload_n 1, 1) := by decide +kernel
theorem dX0_things_12 : decode cX0_things 12 = .ok (.iaload, 1) := by decide +kernel
theorem dX0_things_13 : decode cX0_things 13 = .ok (.goto 4, 3) := by decide +kernel
theorem dX0_things_16 : decode cX0_things 16 = .ok (.iconst 0, 1) := by decide +kernel
theorem dX0_things_17 : decode cX0_things 17 = .ok (.ireturn, 1) := by decide +kernel
set_option maxRecDepth 20000 in
theorem ggX0_lastLabel_X0_things : GoodIn wsX0_lastLabel wsX0_things := goodIn_r _ [6, 7, 8, 9, 10, 20, 21, 22, 23, 24] (by decide +kernel) (by decide +kernel)
set_option maxRecDepth 20000 in
theorem gX0_lastLabel_X0_things : GoodIn wsX0_lastLabel (wsV RX0 36 RX0 yX0_things wsX0_things) := goodIn_app (goodIn_of _ (by decide +kernel)) ggX0_lastLabel_X0_things
set_option maxRecDepth 20000 in
theorem ggX0_lastLabel_X0_labelOf : GoodIn wsX0_lastLabel wsX0_labelOf := goodIn_r _ [14, 15, 16, 17, 5, 18, 19, 20, 21, 22, 23, 24] (by decide +kernel) (by decide +kernel)
set_option maxRecDepth 20000 in
theorem gX0_lastLabel_X0_labelOf : GoodIn wsX0_lastLabel (wsV RX0 39 RX0 yX0_labelOf wsX0_labelOf) := goodIn_app (goodIn_of _ (by decide +kernel)) ggX0_lastLabel_X0_labelOf
theorem dX0_lastLabel_0 : decode cX0_lastLabel 0 = .ok (.aload_n 0, 1) := by decide +kernel
theorem dX0_lastLabel_1 : decode cX0_lastLabel 1 = .ok (.iload_n 1, 1) := by decide +kernel
theorem dX0_lastLabel_2 : decode cX0_lastLabel 2 = .ok (.invokevirtual 36, 3) := by decide +kernel
theorem dX0_lastLabel_5 : decode cX0_lastLabel 5 = .ok (.ifCond .ne 7, 3) := by decide +kernel
theorem dX0_lastLabel_8 : decode cX0_lastLabel 8 = .ok (.iconst 0, 1) := by decide +kernel
theorem dX0_lastLabel_9 : decode cX0_lastLabel 9 = .ok (.goto 13, 3) := by decide +kernel
theorem dX0_lastLabel_12 : decode cX0_lastLabel 12 = .ok (.aload_n 0, 1) := by decide +kernel
theorem dX0_lastLabel_13 : decode cX0_lastLabel 13 = .ok (.aload_n 0, 1) := by decide +kernel
theorem dX0_lastLabel_14 : decode cX0_lastLabel 14 = .ok (.getfield 25, 3) := by decide +kernel
theorem dX0_lastLabel_17 : decode cX0_lastLabel 17 = .ok (.iload_n 1, 1) := by decide +kernel
theorem dX0_lastLabel_18 : decode cX0_lastLabel 18 = .ok (.iaload, 1) := by decide +kernel
theorem dX0_lastLabel_19 : decode cX0_lastLabel 19 = .ok (.invokevirtual 39, 3) := by decide +kernel
theorem dX0_lastLabel_22 : decode cX0_lastLabel 22 = .ok (.ireturn, 1) := by decide +kernel
set_option maxRecDepth 20000 in
theorem ggX0_load_X0_room : GoodIn wsX0_load wsX0_room := goodIn_r _ [10, 1, 15, 16, 17, 18, 19] (by decide +kernel) (by decide +kernel)
set_option maxRecDepth 20000 in
theorem gX0_load_X0_room : GoodIn wsX0_load (wsV RX0 42 RX0 yX0_room wsX0_room) := goodIn_app (goodIn_of _ (by decide +kernel)) ggX0_load_X0_room
set_option maxRecDepth 20000 in
theorem ggX0_load_X0_write : GoodIn wsX0_load wsX0_write := goodIn_r _ [14, 2, 15, 16, 17, 18, 19] (by decide +kernel) (by decide +kernel)
set_option maxRecDepth 20000 in
theorem gX0_load_X0_write : GoodIn wsX0_load (wsV RX0 45 RX0 yX0_write wsX0_write) := goodIn_app (goodIn_of _ (by decide +kernel)) ggX0_load_X0_write
theorem dX0_load_0 : decode cX0_load 0 = .ok (.iconst 2, 1) := by decide +kernel
theorem dX0_load_1 : decode cX0_load 1 = .ok (.iload_n 3, 1) := by decide +kernel
theorem dX0_load_2 : decode cX0_load 2 = .ok (.iadd, 1) := by decide +kernel
theorem dX0_load_3 : decode cX0_load 3 = .ok (.iload 4, 2) := by decide +kernel
theorem dX0_load_5 : decode cX0_load 5 = .ok (.iadd, 1) := by decide +kernel
theorem dX0_load_6 : decode cX0_load 6 = .ok (.istore 5, 2) := by decide +kernel
theorem dX0_load_8 : decode cX0_load 8 = .ok (.aload_n 0, 1) := by decide +kernel
theorem dX0_load_9 : decode cX0_load 9 = .ok (.iload_n 1, 1) := by decide +kernel
theorem dX0_load_10 : decode cX0_load 10 = .ok (.invokevirtual 42, 3) := by decide +kernel
theorem dX0_load_13 : decode cX0_load 13 = .ok (.iload 5, 2) := by decide +kernel
theorem dX0_load_15 : decode cX0_load 15 = .ok (.if_icmp .ge 5, 3) := by decide +kernel
theorem dX0_load_18 : decode cX0_load 18 = .ok (.iconst (-1), 1) := by decide +kernel
theorem dX0_load_19 : decode cX0_load 19 = .ok (.ireturn, 1) := by decide +kernel
theorem dX0_load_20 : decode cX0_load 20 = .ok (.iload_n 1, 1) := by decide +kernel
theorem dX0_load_21 : decode cX0_load 21 = .ok (.bipush 32, 2) := by decide +kernel
theorem dX0_load_23 : decode cX0_load 23 = .ok (.imul, 1) := by decide +kernel
theorem dX0_load_24 : decode cX0_load 24 = .ok (.aload_n 0, 1) := by decide +kernel
theorem dX0_load_25 : decode cX0_load 25 = .ok (.getfield 19, 3) := by decide +kernel
theorem dX0_load_28 : decode cX0_load 28 = .ok (.iload_n 1, 1) := by decide +kernel
theorem dX0_load_29 : decode cX0_load 29 = .ok (.iaload, 1) := by decide +kernel
theorem dX0_load_30 : decode cX0_load 30 = .ok (.iadd, 1) := by decide +kernel
theorem dX0_load_31 : decode cX0_load 31 = .ok (.istore 6, 2) := by decide +kernel
theorem dX0_load_33 : decode cX0_load 33 = .ok (.aload_n 0, 1) := by decide +kernel
theorem dX0_load_34 : decode cX0_load 34 = .ok (.iload 6, 2) := by decide +kernel
theorem dX0_load_36 : decode cX0_load 36 = .ok (.iload_n 2, 1) := by decide +kernel
theorem dX0_load_37 : decode cX0_load 37 = .ok (.invokevirtual 45, 3) := by decide +kernel
theorem dX0_load_40 : decode cX0_load 40 = .ok (.aload_n 0, 1) := by decide +kernel
theorem dX0_load_41 : decode cX0_load 41 = .ok (.iload 6, 2) := by decide +kernel
theorem dX0_load_43 : decode cX0_load 43 = .ok (.iconst 1, 1) := by decide +kernel
theorem dX0_load_44 : decode cX0_load 44 = .ok (.iadd, 1) := by decide +kernel
theorem dX0_load_45 : decode cX0_load 45 = .ok (.iload_n 3, 1) := by decide +kernel
theorem dX0_load_46 : decode cX0_load 46 = .ok (.bipush 16, 2) := by decide +kernel
theorem dX0_load_48 : decode cX0_load 48 = .ok (.iload 4, 2) := by decide +kernel
theorem dX0_load_50 : decode cX0_load 50 = .ok (.imul, 1) := by decide +kernel
theorem dX0_load_51 : decode cX0_load 51 = .ok (.iadd, 1) := by decide +kernel
theorem dX0_load_52 : decode cX0_load 52 = .ok (.invokevirtual 45, 3) := by decide +kernel
theorem dX0_load_55 : decode cX0_load 55 = .ok (.iload 6, 2) := by decide +kernel
theorem dX0_load_57 : decode cX0_load 57 = .ok (.iconst 2, 1) := by decide +kernel
theorem dX0_load_58 : decode cX0_load 58 = .ok (.iadd, 1) := by decide +kernel
theorem dX0_load_59 : decode cX0_load 59 = .ok (.iload_n 3, 1) := by decide +kernel
theorem dX0_load_60 : decode cX0_load 60 = .ok (.iadd, 1) := by decide +kernel
theorem dX0_load_61 : decode cX0_load 61 = .ok (.istore 7, 2) := by decide +kernel
theorem dX0_load_63 : decode cX0_load 63 = .ok (.iload 6, 2) := by decide +kernel
theorem dX0_load_65 : decode cX0_load 65 = .ok (.iconst 2, 1) := by decide +kernel
theorem dX0_load_66 : decode cX0_load 66 = .ok (.iadd, 1) := by decide +kernel
theorem dX0_load_67 : decode cX0_load 67 = .ok (.istore 8, 2) := by decide +kernel
theorem dX0_load_69 : decode cX0_load 69 = .ok (.iload 8, 2) := by decide +kernel
theorem dX0_load_71 : decode cX0_load 71 = .ok (.iload 7, 2) := by decide +kernel
theorem dX0_load_73 : decode cX0_load 73 = .ok (.if_icmp .ge 33, 3) := by decide +kernel
theorem dX0_load_76 : decode cX0_load 76 = .ok (.iload 8, 2) := by decide +kernel
theorem dX0_load_78 : decode cX0_load 78 = .ok (.sipush 1280, 3) := by decide +kernel
theorem dX0_load_81 : decode cX0_load 81 = .ok (.if_icmp .ge 25, 3) := by decide +kernel
theorem dX0_load_84 : decode cX0_load 84 = .ok (.aload_n 0, 1) := by decide +kernel
theorem dX0_load_85 : decode cX0_load 85 = .ok (.getfield 9, 3) := by decide +kernel
theorem dX0_load_88 : decode cX0_load 88 = .ok (.iload 8, 2) := by decide +kernel
theorem dX0_load_90 : decode cX0_load 90 = .ok (.iconst (-1), 1) := by decide +kernel
theorem dX0_load_91 : decode cX0_load 91 = .ok (.iastore, 1) := by decide +kernel
theorem dX0_load_92 : decode cX0_load 92 = .ok (.aload_n 0, 1) := by decide +kernel
theorem dX0_load_93 : decode cX0_load 93 = .ok (.getfield 15, 3) := by decide +kernel
theorem dX0_load_96 : decode cX0_load 96 = .ok (.iload 8, 2) := by decide +kernel
theorem dX0_load_98 : decode cX0_load 98 = .ok (.iconst 1, 1) := by decide +kernel
theorem dX0_load_99 : decode cX0_load 99 = .ok (.bastore, 1) := by decide +kernel
theorem dX0_load_100 : decode cX0_load 100 = .ok (.iinc 8 1, 3) := by decide +kernel
theorem dX0_load_103 : decode cX0_load 103 = .ok (.goto (-34), 3) := by decide +kernel
theorem dX0_load_106 : decode cX0_load 106 = .ok (.aload_n 0, 1) := by decide +kernel
theorem dX0_load_107 : decode cX0_load 107 = .ok (.getfield 19, 3) := by decide +kernel
theorem dX0_load_110 : decode cX0_load 110 = .ok (.iload_n 1, 1) := by decide +kernel
theorem dX0_load_111 : decode cX0_load 111 = .ok (.dup2, 1) := by decide +kernel
theorem dX0_load_112 : decode cX0_load 112 = .ok (.iaload, 1) := by decide +kernel
theorem dX0_load_113 : decode cX0_load 113 = .ok (.iload 5, 2) := by decide +kernel
theorem dX0_load_115 : decode cX0_load 115 = .ok (.iadd, 1) := by decide +kernel
theorem dX0_load_116 : decode cX0_load 116 = .ok (.iastore, 1) := by decide +kernel
theorem dX0_load_117 : decode cX0_load 117 = .ok (.aload_n 0, 1) := by decide +kernel
theorem dX0_load_118 : decode cX0_load 118 = .ok (.getfield 22, 3) := by decide +kernel
theorem dX0_load_121 : decode cX0_load 121 = .ok (.iload_n 1, 1) := by decide +kernel
theorem dX0_load_122 : decode cX0_load 122 = .ok (.dup2, 1) := by decide +kernel
theorem dX0_load_123 : decode cX0_load 123 = .ok (.iaload, 1) := by decide +kernel
theorem dX0_load_124 : decode cX0_load 124 = .ok (.iconst 1, 1) := by decide +kernel
theorem dX0_load_125 : decode cX0_load 125 = .ok (.iadd, 1) := by decide +kernel
theorem dX0_load_126 : decode cX0_load 126 = .ok (.iastore, 1) := by decide +kernel
theorem dX0_load_127 : decode cX0_load 127 = .ok (.aload_n 0, 1) := by decide +kernel
theorem dX0_load_128 : decode cX0_load 128 = .ok (.getfield 25, 3) := by decide +kernel
theorem dX0_load_131 : decode cX0_load 131 = .ok (.iload_n 1, 1) := by decide +kernel
theorem dX0_load_132 : decode cX0_load 132 = .ok (.iload 6, 2) := by decide +kernel
theorem dX0_load_134 : decode cX0_load 134 = .ok (.iastore, 1) := by decide +kernel
theorem dX0_load_135 : decode cX0_load 135 = .ok (.iload 6, 2) := by decide +kernel
theorem dX0_load_137 : decode cX0_load 137 = .ok (.ireturn, 1) := by decide +kernel
set_option maxRecDepth 20000 in
theorem ggX0_bring_X0_labelOf : GoodIn wsX0_bring wsX0_labelOf := goodIn_r _ [5, 6, 7, 8, 4, 9, 10, 39, 40, 41, 42, 43] (by decide +kernel) (by decide +kernel)
set_option maxRecDepth 20000 in
theorem gX0_bring_X0_labelOf : GoodIn wsX0_bring (wsV RX0 39 RX0 yX0_labelOf wsX0_labelOf) := goodIn_app (goodIn_of _ (by decide +kernel)) ggX0_bring_X0_labelOf
set_option maxRecDepth 20000 in
theorem ggX0_bring_X0_references : GoodIn wsX0_bring wsX0_references := goodIn_r _ [14, 6, 7, 8, 4, 9, 10, 39, 40, 41, 42, 43] (by decide +kernel) (by decide +kernel)
set_option maxRecDepth 20000 in
theorem gX0_bring_X0_references : GoodIn wsX0_bring (wsV RX0 49 RX0 yX0_references wsX0_references) := goodIn_app (goodIn_of _ (by decide +kernel)) ggX0_bring_X0_references
set_option maxRecDepth 20000 in
theorem ggX0_bring_X0_numbers : GoodIn wsX0_bring wsX0_numbers := goodIn_r _ [18, 6, 7, 8, 4, 9, 10, 39, 40, 41, 42, 43] (by decide +kernel) (by decide +kernel)
set_option maxRecDepth 20000 in
theorem gX0_bring_X0_numbers : GoodIn wsX0_bring (wsV RX0 52 RX0 yX0_numbers wsX0_numbers) := goodIn_app (goodIn_of _ (by decide +kernel)) ggX0_bring_X0_numbers
set_option maxRecDepth 20000 in
theorem ggX0_bring_X0_load : GoodIn wsX0_bring wsX0_load := goodIn_r _ [22, 23, 10, 24, 25, 26, 27, 28, 29, 4, 30, 31, 32, 33, 34, 39, 40, 41, 42, 43] (by decide +kernel) (by decide +kernel)
set_option maxRecDepth 20000 in
theorem gX0_bring_X0_load : GoodIn wsX0_bring (wsV RX0 55 RX0 yX0_load wsX0_load) := goodIn_app (goodIn_of _ (by decide +kernel)) ggX0_bring_X0_load
set_option maxRecDepth 20000 in
theorem ggX0_bring_X0_size : GoodIn wsX0_bring wsX0_size := goodIn_r _ [38, 6, 7, 8, 4, 9, 10, 39, 40, 41, 42, 43] (by decide +kernel) (by decide +kernel)
set_option maxRecDepth 20000 in
theorem gX0_bring_X0_size : GoodIn wsX0_bring (wsV RX0 59 RX0 yX0_size wsX0_size) := goodIn_app (goodIn_of _ (by decide +kernel)) ggX0_bring_X0_size
set_option maxRecDepth 20000 in
theorem ggX0_bring_X0_at : GoodIn wsX0_bring wsX0_at := goodIn_r _ [9, 10, 39, 40, 41, 42, 43] (by decide +kernel) (by decide +kernel)
set_option maxRecDepth 20000 in
theorem gX0_bring_X0_at : GoodIn wsX0_bring (wsV RX0 28 RX0 yX0_at wsX0_at) := goodIn_app (goodIn_of _ (by decide +kernel)) ggX0_bring_X0_at
set_option maxRecDepth 20000 in
theorem ggX0_bring_X0_write : GoodIn wsX0_bring wsX0_write := goodIn_r _ [34, 10, 39, 40, 41, 42, 43] (by decide +kernel) (by decide +kernel)
set_option maxRecDepth 20000 in
theorem gX0_bring_X0_write : GoodIn wsX0_bring (wsV RX0 45 RX0 yX0_write wsX0_write) := goodIn_app (goodIn_of _ (by decide +kernel)) ggX0_bring_X0_write
theorem dX0_bring_0 : decode cX0_bring 0 = .ok (.aload_n 0, 1) := by decide +kernel
theorem dX0_bring_1 : decode cX0_bring 1 = .ok (.iload_n 2, 1) := by decide +kernel
theorem dX0_bring_2 : decode cX0_bring 2 = .ok (.aload_n 0, 1) := by decide +kernel
theorem dX0_bring_3 : decode cX0_bring 3 = .ok (.iload_n 1, 1) := by decide +kernel
theorem dX0_bring_4 : decode cX0_bring 4 = .ok (.invokevirtual 39, 3) := by decide +kernel
theorem dX0_bring_7 : decode cX0_bring 7 = .ok (.aload_n 0, 1) := by decide +kernel
theorem dX0_bring_8 : decode cX0_bring 8 = .ok (.iload_n 1, 1) := by decide +kernel
theorem dX0_bring_9 : decode cX0_bring 9 = .ok (.invokevirtual 49, 3) := by decide +kernel
theorem dX0_bring_12 : decode cX0_bring 12 = .ok (.aload_n 0, 1) := by decide +kernel
theorem dX0_bring_13 : decode cX0_bring 13 = .ok (.iload_n 1, 1) := by decide +kernel
theorem dX0_bring_14 : decode cX0_bring 14 = .ok (.invokevirtual 52, 3) := by decide +kernel
theorem dX0_bring_17 : decode cX0_bring 17 = .ok (.invokevirtual 55, 3) := by decide +kernel
theorem dX0_bring_20 : decode cX0_bring 20 = .ok (.istore_n 3, 1) := by decide +kernel
theorem dX0_bring_21 : decode cX0_bring 21 = .ok (.iload_n 3, 1) := by decide +kernel
theorem dX0_bring_22 : decode cX0_bring 22 = .ok (.iconst (-1), 1) := by decide +kernel
theorem dX0_bring_23 : decode cX0_bring 23 = .ok (.if_icmp .ne 5, 3) := by decide +kernel
theorem dX0_bring_26 : decode cX0_bring 26 = .ok (.iconst (-1), 1) := by decide +kernel
theorem dX0_bring_27 : decode cX0_bring 27 = .ok (.ireturn, 1) := by decide +kernel
theorem dX0_bring_28 : decode cX0_bring 28 = .ok (.aload_n 0, 1) := by decide +kernel
theorem dX0_bring_29 : decode cX0_bring 29 = .ok (.iload_n 1, 1) := by decide +kernel
theorem dX0_bring_30 : decode cX0_bring 30 = .ok (.invokevirtual 59, 3) := by decide +kernel
theorem dX0_bring_33 : decode cX0_bring 33 = .ok (.istore 4, 2) := by decide +kernel
theorem dX0_bring_35 : decode cX0_bring 35 = .ok (.iconst 2, 1) := by decide +kernel
theorem dX0_bring_36 : decode cX0_bring 36 = .ok (.istore 5, 2) := by decide +kernel
theorem dX0_bring_38 : decode cX0_bring 38 = .ok (.iload 5, 2) := by decide +kernel
theorem dX0_bring_40 : decode cX0_bring 40 = .ok (.iload 4, 2) := by decide +kernel
theorem dX0_bring_42 : decode cX0_bring 42 = .ok (.if_icmp .ge 25, 3) := by decide +kernel
theorem dX0_bring_45 : decode cX0_bring 45 = .ok (.aload_n 0, 1) := by decide +kernel
theorem dX0_bring_46 : decode cX0_bring 46 = .ok (.iload_n 3, 1) := by decide +kernel
theorem dX0_bring_47 : decode cX0_bring 47 = .ok (.iload 5, 2) := by decide +kernel
theorem dX0_bring_49 : decode cX0_bring 49 = .ok (.iadd, 1) := by decide +kernel
theorem dX0_bring_50 : decode cX0_bring 50 = .ok (.aload_n 0, 1) := by decide +kernel
theorem dX0_bring_51 : decode cX0_bring 51 = .ok (.iload_n 1, 1) := by decide +kernel
theorem dX0_bring_52 : decode cX0_bring 52 = .ok (.iload 5, 2) := by decide +kernel
theorem dX0_bring_54 : decode cX0_bring 54 = .ok (.iadd, 1) := by decide +kernel
theorem dX0_bring_55 : decode cX0_bring 55 = .ok (.invokevirtual 28, 3) := by decide +kernel
theorem dX0_bring_58 : decode cX0_bring 58 = .ok (.invokevirtual 45, 3) := by decide +kernel
theorem dX0_bring_61 : decode cX0_bring 61 = .ok (.iinc 5 1, 3) := by decide +kernel
theorem dX0_bring_64 : decode cX0_bring 64 = .ok (.goto (-26), 3) := by decide +kernel
theorem dX0_bring_67 : decode cX0_bring 67 = .ok (.iload_n 3, 1) := by decide +kernel
theorem dX0_bring_68 : decode cX0_bring 68 = .ok (.ireturn, 1) := by decide +kernel
set_option maxRecDepth 20000 in
theorem ggX0_clear_X4_isCar : GoodIn wsX0_clear wsX4_isCar := goodIn_r _ [7] (by decide +kernel) (by decide +kernel)
set_option maxRecDepth 20000 in
theorem gX0_clear_X4_isCar_n32 : GoodIn wsX0_clear (wsX4_isCar) := ggX0_clear_X4_isCar
theorem dX0_clear_0 : decode cX0_clear 0 = .ok (.iload_n 1, 1) := by decide +kernel
theorem dX0_clear_1 : decode cX0_clear 1 = .ok (.invokestatic 32, 3) := by decide +kernel
theorem dX0_clear_4 : decode cX0_clear 4 = .ok (.ifCond .ne 4, 3) := by decide +kernel
theorem dX0_clear_7 : decode cX0_clear 7 = .ok (.return_, 1) := by decide +kernel
theorem dX0_clear_8 : decode cX0_clear 8 = .ok (.iload_n 1, 1) := by decide +kernel
theorem dX0_clear_9 : decode cX0_clear 9 = .ok (.bipush 32, 2) := by decide +kernel
theorem dX0_clear_11 : decode cX0_clear 11 = .ok (.imul, 1) := by decide +kernel
theorem dX0_clear_12 : decode cX0_clear 12 = .ok (.istore_n 2, 1) := by decide +kernel
theorem dX0_clear_13 : decode cX0_clear 13 = .ok (.iload_n 2, 1) := by decide +kernel
theorem dX0_clear_14 : decode cX0_clear 14 = .ok (.istore_n 3, 1) := by decide +kernel
theorem dX0_clear_15 : decode cX0_clear 15 = .ok (.iload_n 3, 1) := by decide +kernel
theorem dX0_clear_16 : decode cX0_clear 16 = .ok (.iload_n 2, 1) := by decide +kernel
theorem dX0_clear_17 : decode cX0_clear 17 = .ok (.bipush 32, 2) := by decide +kernel
theorem dX0_clear_19 : decode cX0_clear 19 = .ok (.iadd, 1) := by decide +kernel
theorem dX0_clear_20 : decode cX0_clear 20 = .ok (.if_icmp .ge 30, 3) := by decide +kernel
theorem dX0_clear_23 : decode cX0_clear 23 = .ok (.iload_n 3, 1) := by decide +kernel
theorem dX0_clear_24 : decode cX0_clear 24 = .ok (.sipush 1280, 3) := by decide +kernel
theorem dX0_clear_27 : decode cX0_clear 27 = .ok (.if_icmp .ge 23, 3) := by decide +kernel
theorem dX0_clear_30 : decode cX0_clear 30 = .ok (.aload_n 0, 1) := by decide +kernel
theorem dX0_clear_31 : decode cX0_clear 31 = .ok (.getfield 9, 3) := by decide +kernel
theorem dX0_clear_34 : decode cX0_clear 34 = .ok (.iload_n 3, 1) := by decide +kernel
theorem dX0_clear_35 : decode cX0_clear 35 = .ok (.iconst 0, 1) := by decide +kernel
theorem dX0_clear_36 : decode cX0_clear 36 = .ok (.iastore, 1) := by decide +kernel
theorem dX0_clear_37 : decode cX0_clear 37 = .ok (.aload_n 0, 1) := by decide +kernel
theorem dX0_clear_38 : decode cX0_clear 38 = .ok (.getfield 15, 3) := by decide +kernel
theorem dX0_clear_41 : decode cX0_clear 41 = .ok (.iload_n 3, 1) := by decide +kernel
theorem dX0_clear_42 : decode cX0_clear 42 = .ok (.iconst 0, 1) := by decide +kernel
theorem dX0_clear_43 : decode cX0_clear 43 = .ok (.bastore, 1) := by decide +kernel
theorem dX0_clear_44 : decode cX0_clear 44 = .ok (.iinc 3 1, 3) := by decide +kernel
theorem dX0_clear_47 : decode cX0_clear 47 = .ok (.goto (-32), 3) := by decide +kernel
theorem dX0_clear_50 : decode cX0_clear 50 = .ok (.aload_n 0, 1) := by decide +kernel
theorem dX0_clear_51 : decode cX0_clear 51 = .ok (.getfield 19, 3) := by decide +kernel
theorem dX0_clear_54 : decode cX0_clear 54 = .ok (.iload_n 1, 1) := by decide +kernel
theorem dX0_clear_55 : decode cX0_clear 55 = .ok (.iconst 0, 1) := by decide +kernel
theorem dX0_clear_56 : decode cX0_clear 56 = .ok (.iastore, 1) := by decide +kernel
theorem dX0_clear_57 : decode cX0_clear 57 = .ok (.aload_n 0, 1) := by decide +kernel
theorem dX0_clear_58 : decode cX0_clear 58 = .ok (.getfield 22, 3) := by decide +kernel
theorem dX0_clear_61 : decode cX0_clear 61 = .ok (.iload_n 1, 1) := by decide +kernel
theorem dX0_clear_62 : decode cX0_clear 62 = .ok (.iconst 0, 1) := by decide +kernel
theorem dX0_clear_63 : decode cX0_clear 63 = .ok (.iastore, 1) := by decide +kernel
theorem dX0_clear_64 : decode cX0_clear 64 = .ok (.return_, 1) := by decide +kernel
theorem dX0_nextReference_0 : decode cX0_nextReference 0 = .ok (.iload_n 1, 1) := by decide +kernel
theorem dX0_nextReference_1 : decode cX0_nextReference 1 = .ok (.istore_n 2, 1) := by decide +kernel
theorem dX0_nextReference_2 : decode cX0_nextReference 2 = .ok (.iload_n 2, 1) := by decide +kernel
theorem dX0_nextReference_3 : decode cX0_nextReference 3 = .ok (.ifCond .lt 55, 3) := by decide +kernel
theorem dX0_nextReference_6 : decode cX0_nextReference 6 = .ok (.iload_n 2, 1) := by decide +kernel
theorem dX0_nextReference_7 : decode cX0_nextReference 7 = .ok (.sipush 1280, 3) := by decide +kernel
theorem dX0_nextReference_10 : decode cX0_nextReference 10 = .ok (.if_icmp .ge 48, 3) := by decide +kernel
theorem dX0_nextReference_13 : decode cX0_nextReference 13 = .ok (.iload_n 2, 1) := by decide +kernel
theorem dX0_nextReference_14 : decode cX0_nextReference 14 = .ok (.bipush 32, 2) := by decide +kernel
theorem dX0_nextReference_16 : decode cX0_nextReference 16 = .ok (.idiv, 1) := by decide +kernel
theorem dX0_nextReference_17 : decode cX0_nextReference 17 = .ok (.istore_n 3, 1) := by decide +kernel
theorem dX0_nextReference_18 : decode cX0_nextReference 18 = .ok (.iload_n 2, 1) := by decide +kernel
theorem dX0_nextReference_19 : decode cX0_nextReference 19 = .ok (.bipush 32, 2) := by decide +kernel
theorem dX0_nextReference_21 : decode cX0_nextReference 21 = .ok (.irem, 1) := by decide +kernel
theorem dX0_nextReference_22 : decode cX0_nextReference 22 = .ok (.aload_n 0, 1) := by decide +kernel
theorem dX0_nextReference_23 : decode cX0_nextReference 23 = .ok (.getfield 19, 3) := by decide +kernel
theorem dX0_nextReference_26 : decode cX0_nextReference 26 = .ok (.iload_n 3, 1) := by decide +kernel
theorem dX0_nextReference_27 : decode cX0_nextReference 27 = .ok (.iaload, 1) := by decide +kernel
theorem dX0_nextReference_28 : decode cX0_nextReference 28 = .ok (.if_icmp .lt 13, 3) := by decide +kernel
theorem dX0_nextReference_31 : decode cX0_nextReference 31 = .ok (.iload_n 3, 1) := by decide +kernel
theorem dX0_nextReference_32 : decode cX0_nextReference 32 = .ok (.iconst 1, 1) := by decide +kernel
theorem dX0_nextReference_33 : decode cX0_nextReference 33 = .ok (.iadd, 1) := by decide +kernel
theorem dX0_nextReference_34 : decode cX0_nextReference 34 = .ok (.bipush 32, 2) := by decide +kernel
theorem dX0_nextReference_36 : decode cX0_nextReference 36 = .ok (.imul, 1) := by decide +kernel
theorem dX0_nextReference_37 : decode cX0_nextReference 37 = .ok (.istore_n 2, 1) := by decide +kernel
theorem dX0_nextReference_38 : decode cX0_nextReference 38 = .ok (.goto 17, 3) := by decide +kernel
theorem dX0_nextReference_41 : decode cX0_nextReference 41 = .ok (.aload_n 0, 1) := by decide +kernel
theorem dX0_nextReference_42 : decode cX0_nextReference 42 = .ok (.getfield 15, 3) := by decide +kernel
theorem dX0_nextReference_45 : decode cX0_nextReference 45 = .ok (.iload_n 2, 1) := by decide +kernel
theorem dX0_nextReference_46 : decode cX0_nextReference 46 = .ok (.baload, 1) := by decide +kernel
theorem dX0_nextReference_47 : decode cX0_nextReference 47 = .ok (.ifCond .eq 5, 3) := by decide +kernel
theorem dX0_nextReference_50 : decode cX0_nextReference 50 = .ok (.iload_n 2, 1) := by decide +kernel
theorem dX0_nextReference_51 : decode cX0_nextReference 51 = .ok (.ireturn, 1) := by decide +kernel
theorem dX0_nextReference_52 : decode cX0_nextReference 52 = .ok (.iinc 2 1, 3) := by decide +kernel
theorem dX0_nextReference_55 : decode cX0_nextReference 55 = .ok (.goto (-53), 3) := by decide +kernel
theorem dX0_nextReference_58 : decode cX0_nextReference 58 = .ok (.sipush 1280, 3) := by decide +kernel
theorem dX0_nextReference_61 : decode cX0_nextReference 61 = .ok (.ireturn, 1) := by decide +kernel
theorem dX1_init_0 : decode cX1_init 0 = .ok (.aload_n 0, 1) := by decide +kernel
theorem dX1_init_1 : decode cX1_init 1 = .ok (.invokespecial 3, 3) := by decide +kernel
theorem dX1_init_4 : decode cX1_init 4 = .ok (.aload_n 0, 1) := by decide +kernel
theorem dX1_init_5 : decode cX1_init 5 = .ok (.bipush 40, 2) := by decide +kernel
theorem dX1_init_7 : decode cX1_init 7 = .ok (.newarray .int, 2) := by decide +kernel
theorem dX1_init_9 : decode cX1_init 9 = .ok (.putfield 9, 3) := by decide +kernel
theorem dX1_init_12 : decode cX1_init 12 = .ok (.aload_n 0, 1) := by decide +kernel
theorem dX1_init_13 : decode cX1_init 13 = .ok (.bipush 40, 2) := by decide +kernel
theorem dX1_init_15 : decode cX1_init 15 = .ok (.newarray .int, 2) := by decide +kernel
theorem dX1_init_17 : decode cX1_init 17 = .ok (.putfield 15, 3) := by decide +kernel
theorem dX1_init_20 : decode cX1_init 20 = .ok (.aload_n 0, 1) := by decide +kernel
theorem dX1_init_21 : decode cX1_init 21 = .ok (.iconst 0, 1) := by decide +kernel
theorem dX1_init_22 : decode cX1_init 22 = .ok (.putfield 18, 3) := by decide +kernel
theorem dX1_init_25 : decode cX1_init 25 = .ok (.aload_n 0, 1) := by decide +kernel
theorem dX1_init_26 : decode cX1_init 26 = .ok (.iconst 0, 1) := by decide +kernel
theorem dX1_init_27 : decode cX1_init 27 = .ok (.putfield 22, 3) := by decide +kernel
theorem dX1_init_30 : decode cX1_init 30 = .ok (.return_, 1) := by decide +kernel
theorem dX1_carAt_0 : decode cX1_carAt 0 = .ok (.iload_n 1, 1) := by decide +kernel
theorem dX1_carAt_1 : decode cX1_carAt 1 = .ok (.ifCond .lt 20, 3) := by decide +kernel
theorem dX1_carAt_4 : decode cX1_carAt 4 = .ok (.iload_n 1, 1) := by decide +kernel
theorem dX1_carAt_5 : decode cX1_carAt 5 = .ok (.aload_n 0, 1) := by decide +kernel
theorem dX1_carAt_6 : decode cX1_carAt 6 = .ok (.getfield 18, 3) := by decide +kernel
theorem dX1_carAt_9 : decode cX1_carAt 9 = .ok (.if_icmp .ge 12, 3) := by decide +kernel
theorem dX1_carAt_12 : decode cX1_carAt 12 = .ok (.aload_n 0, 1) := by decide +kernel
theorem dX1_carAt_13 : decode cX1_carAt 13 = .ok (.getfield 9, 3) := by decide +kernel
theorem dX1_carAt_16 : decode cX1_carAt 16 = .ok (.iload_n 1, 1) := by decide +kernel
theorem dX1_carAt_17 : decode cX1_carAt 17 = .ok (.iaload, 1) := by decide +kernel
theorem dX1_carAt_18 : decode cX1_carAt 18 = .ok (.goto 4, 3) := by decide +kernel
theorem dX1_carAt_21 : decode cX1_carAt 21 = .ok (.iconst (-1), 1) := by decide +kernel
theorem dX1_carAt_22 : decode cX1_carAt 22 = .ok (.ireturn, 1) := by decide +kernel
theorem dX1_indexOf_0 : decode cX1_indexOf 0 = .ok (.iconst 0, 1) := by decide +kernel
theorem dX1_indexOf_1 : decode cX1_indexOf 1 = .ok (.istore_n 2, 1) := by decide +kernel
theorem dX1_indexOf_2 : decode cX1_indexOf 2 = .ok (.iload_n 2, 1) := by decide +kernel
theorem dX1_indexOf_3 : decode cX1_indexOf 3 = .ok (.aload_n 0, 1) := by decide +kernel
theorem dX1_indexOf_4 : decode cX1_indexOf 4 = .ok (.getfield 18, 3) := by decide +kernel
theorem dX1_indexOf_7 : decode cX1_indexOf 7 = .ok (.if_icmp .ge 21, 3) := by decide +kernel
theorem dX1_indexOf_10 : decode cX1_indexOf 10 = .ok (.aload_n 0, 1) := by decide +kernel
theorem dX1_indexOf_11 : decode cX1_indexOf 11 = .ok (.getfield 9, 3) := by decide +kernel
theorem dX1_indexOf_14 : decode cX1_indexOf 14 = .ok (.iload_n 2, 1) := by decide +kernel
theorem dX1_indexOf_15 : decode cX1_indexOf 15 = .ok (.iaload, 1) := by decide +kernel
theorem dX1_indexOf_16 : decode cX1_indexOf 16 = .ok (.iload_n 1, 1) := by decide +kernel
theorem dX1_indexOf_17 : decode cX1_indexOf 17 = .ok (.if_icmp .ne 5, 3) := by decide +kernel
theorem dX1_indexOf_20 : decode cX1_indexOf 20 = .ok (.iload_n 2, 1) := by decide +kernel
theorem dX1_indexOf_21 : decode cX1_indexOf 21 = .ok (.ireturn, 1) := by decide +kernel
theorem dX1_indexOf_22 : decode cX1_indexOf 22 = .ok (.iinc 2 1, 3) := by decide +kernel
theorem dX1_indexOf_25 : decode cX1_indexOf 25 = .ok (.goto (-23), 3) := by decide +kernel
theorem dX1_indexOf_28 : decode cX1_indexOf 28 = .ok (.iconst (-1), 1) := by decide +kernel
theorem dX1_indexOf_29 : decode cX1_indexOf 29 = .ok (.ireturn, 1) := by decide +kernel
theorem dX1_trainOf_0 : decode cX1_trainOf 0 = .ok (.iload_n 1, 1) := by decide +kernel
theorem dX1_trainOf_1 : decode cX1_trainOf 1 = .ok (.ifCond .lt 18, 3) := by decide +kernel
theorem dX1_trainOf_4 : decode cX1_trainOf 4 = .ok (.iload_n 1, 1) := by decide +kernel
theorem dX1_trainOf_5 : decode cX1_trainOf 5 = .ok (.bipush 40, 2) := by decide +kernel
theorem dX1_trainOf_7 : decode cX1_trainOf 7 = .ok (.if_icmp .ge 12, 3) := by decide +kernel
theorem dX1_trainOf_10 : decode cX1_trainOf 10 = .ok (.aload_n 0, 1) := by decide +kernel
theorem dX1_trainOf_11 : decode cX1_trainOf 11 = .ok (.getfield 15, 3) := by decide +kernel
theorem dX1_trainOf_14 : decode cX1_trainOf 14 = .ok (.iload_n 1, 1) := by decide +kernel
theorem dX1_trainOf_15 : decode cX1_trainOf 15 = .ok (.iaload, 1) := by decide +kernel
theorem dX1_trainOf_16 : decode cX1_trainOf 16 = .ok (.goto 4, 3) := by decide +kernel
theorem dX1_trainOf_19 : decode cX1_trainOf 19 = .ok (.iconst 0, 1) := by decide +kernel
theorem dX1_trainOf_20 : decode cX1_trainOf 20 = .ok (.ireturn, 1) := by decide +kernel
set_option maxRecDepth 20000 in
theorem ggX1_firstTrain_X1_carAt : GoodIn wsX1_firstTrain wsX1_carAt := goodIn_r _ [5, 6, 7, 13, 14, 15, 16] (by decide +kernel) (by decide +kernel)
set_option maxRecDepth 20000 in
theorem gX1_firstTrain_X1_carAt : GoodIn wsX1_firstTrain (wsV RX1 25 RX1 yX1_carAt wsX1_carAt) := goodIn_app (goodIn_of _ (by decide +kernel)) ggX1_firstTrain_X1_carAt
set_option maxRecDepth 20000 in
theorem ggX1_firstTrain_X1_trainOf : GoodIn wsX1_firstTrain wsX1_trainOf := goodIn_r _ [11, 12, 13, 14, 15, 16] (by decide +kernel) (by decide +kernel)
set_option maxRecDepth 20000 in
theorem gX1_firstTrain_X1_trainOf : GoodIn wsX1_firstTrain (wsV RX1 29 RX1 yX1_trainOf wsX1_trainOf) := goodIn_app (goodIn_of _ (by decide +kernel)) ggX1_firstTrain_X1_trainOf
theorem dX1_firstTrain_0 : decode cX1_firstTrain 0 = .ok (.aload_n 0, 1) := by decide +kernel
theorem dX1_firstTrain_1 : decode cX1_firstTrain 1 = .ok (.aload_n 0, 1) := by decide +kernel
theorem dX1_firstTrain_2 : decode cX1_firstTrain 2 = .ok (.iconst 0, 1) := by decide +kernel
theorem dX1_firstTrain_3 : decode cX1_firstTrain 3 = .ok (.invokevirtual 25, 3) := by decide +kernel
theorem dX1_firstTrain_6 : decode cX1_firstTrain 6 = .ok (.invokevirtual 29, 3) := by decide +kernel
theorem dX1_firstTrain_9 : decode cX1_firstTrain 9 = .ok (.ireturn, 1) := by decide +kernel
set_option maxRecDepth 20000 in
theorem ggX1_lastTrain_X1_carAt : GoodIn wsX1_lastTrain wsX1_carAt := goodIn_r _ [6, 1, 7, 13, 14, 15, 16] (by decide +kernel) (by decide +kernel)
set_option maxRecDepth 20000 in
theorem gX1_lastTrain_X1_carAt : GoodIn wsX1_lastTrain (wsV RX1 25 RX1 yX1_carAt wsX1_carAt) := goodIn_app (goodIn_of _ (by decide +kernel)) ggX1_lastTrain_X1_carAt
set_option maxRecDepth 20000 in
theorem ggX1_lastTrain_X1_trainOf : GoodIn wsX1_lastTrain wsX1_trainOf := goodIn_r _ [11, 12, 13, 14, 15, 16] (by decide +kernel) (by decide +kernel)
set_option maxRecDepth 20000 in
theorem gX1_lastTrain_X1_trainOf : GoodIn wsX1_lastTrain (wsV RX1 29 RX1 yX1_trainOf wsX1_trainOf) := goodIn_app (goodIn_of _ (by decide +kernel)) ggX1_lastTrain_X1_trainOf
theorem dX1_lastTrain_0 : decode cX1_lastTrain 0 = .ok (.aload_n 0, 1) := by decide +kernel
theorem dX1_lastTrain_1 : decode cX1_lastTrain 1 = .ok (.aload_n 0, 1) := by decide +kernel
theorem dX1_lastTrain_2 : decode cX1_lastTrain 2 = .ok (.aload_n 0, 1) := by decide +kernel
theorem dX1_lastTrain_3 : decode cX1_lastTrain 3 = .ok (.getfield 18, 3) := by decide +kernel
theorem dX1_lastTrain_6 : decode cX1_lastTrain 6 = .ok (.iconst 1, 1) := by decide +kernel
theorem dX1_lastTrain_7 : decode cX1_lastTrain 7 = .ok (.isub, 1) := by decide +kernel
theorem dX1_lastTrain_8 : decode cX1_lastTrain 8 = .ok (.invokevirtual 25, 3) := by decide +kernel
theorem dX1_lastTrain_11 : decode cX1_lastTrain 11 = .ok (.invokevirtual 29, 3) := by decide +kernel
theorem dX1_lastTrain_14 : decode cX1_lastTrain 14 = .ok (.ireturn, 1) := by decide +kernel
theorem dX1_countFree_0 : decode cX1_countFree 0 = .ok (.bipush 40, 2) := by decide +kernel
theorem dX1_countFree_2 : decode cX1_countFree 2 = .ok (.aload_n 0, 1) := by decide +kernel
theorem dX1_countFree_3 : decode cX1_countFree 3 = .ok (.getfield 18, 3) := by decide +kernel
theorem dX1_countFree_6 : decode cX1_countFree 6 = .ok (.isub, 1) := by decide +kernel
theorem dX1_countFree_7 : decode cX1_countFree 7 = .ok (.ireturn, 1) := by decide +kernel
set_option maxRecDepth 20000 in
theorem ggX1_countTrains_X1_carAt : GoodIn wsX1_countTrains wsX1_carAt := goodIn_r _ [6, 1, 7, 13, 14, 15, 16] (by decide +kernel) (by decide +kernel)
set_option maxRecDepth 20000 in
theorem gX1_countTrains_X1_carAt : GoodIn wsX1_countTrains (wsV RX1 25 RX1 yX1_carAt wsX1_carAt) := goodIn_app (goodIn_of _ (by decide +kernel)) ggX1_countTrains_X1_carAt
set_option maxRecDepth 20000 in
theorem ggX1_countTrains_X1_trainOf : GoodIn wsX1_countTrains wsX1_trainOf := goodIn_r _ [11, 12, 13, 14, 15, 16] (by decide +kernel) (by decide +kernel)
set_option maxRecDepth 20000 in
theorem gX1_countTrains_X1_trainOf : GoodIn wsX1_countTrains (wsV RX1 29 RX1 yX1_trainOf wsX1_trainOf) := goodIn_app (goodIn_of _ (by decide +kernel)) ggX1_countTrains_X1_trainOf
theorem dX1_countTrains_0 : decode cX1_countTrains 0 = .ok (.iconst 0, 1) := by decide +kernel
theorem dX1_countTrains_1 : decode cX1_countTrains 1 = .ok (.istore_n 1, 1) := by decide +kernel
theorem dX1_countTrains_2 : decode cX1_countTrains 2 = .ok (.iconst 0, 1) := by decide +kernel
theorem dX1_countTrains_3 : decode cX1_countTrains 3 = .ok (.istore_n 2, 1) := by decide +kernel
theorem dX1_countTrains_4 : decode cX1_countTrains 4 = .ok (.iload_n 2, 1) := by decide +kernel
theorem dX1_countTrains_5 : decode cX1_countTrains 5 = .ok (.aload_n 0, 1) := by decide +kernel
theorem dX1_countTrains_6 : decode cX1_countTrains 6 = .ok (.getfield 18, 3) := by decide +kernel
theorem dX1_countTrains_9 : decode cX1_countTrains 9 = .ok (.if_icmp .ge 35, 3) := by decide +kernel
theorem dX1_countTrains_12 : decode cX1_countTrains 12 = .ok (.aload_n 0, 1) := by decide +kernel
theorem dX1_countTrains_13 : decode cX1_countTrains 13 = .ok (.aload_n 0, 1) := by decide +kernel
theorem dX1_countTrains_14 : decode cX1_countTrains 14 = .ok (.iload_n 2, 1) := by decide +kernel
theorem dX1_countTrains_15 : decode cX1_countTrains 15 = .ok (.invokevirtual 25, 3) := by decide +kernel
theorem dX1_countTrains_18 : decode cX1_countTrains 18 = .ok (.invokevirtual 29, 3) := by decide +kernel
theorem dX1_countTrains_21 : decode cX1_countTrains 21 = .ok (.aload_n 0, 1) := by decide +kernel
theorem dX1_countTrains_22 : decode cX1_countTrains 22 = .ok (.aload_n 0, 1) := by decide +kernel
theorem dX1_countTrains_23 : decode cX1_countTrains 23 = .ok (.iload_n 2, 1) := by decide +kernel
theorem dX1_countTrains_24 : decode cX1_countTrains 24 = .ok (.iconst 1, 1) := by decide +kernel
theorem dX1_countTrains_25 : decode cX1_countTrains 25 = .ok (.isub, 1) := by decide +kernel
theorem dX1_countTrains_26 : decode cX1_countTrains 26 = .ok (.invokevirtual 25, 3) := by decide +kernel
theorem dX1_countTrains_29 : decode cX1_countTrains 29 = .ok (.invokevirtual 29, 3) := by decide +kernel
theorem dX1_countTrains_32 : decode cX1_countTrains 32 = .ok (.if_icmp .eq 6, 3) := by decide +kernel
theorem dX1_countTrains_35 : decode cX1_countTrains 35 = .ok (.iinc 1 1, 3) := by decide +kernel
theorem dX1_countTrains_38 : decode cX1_countTrains 38 = .ok (.iinc 2 1, 3) := by decide +kernel
theorem dX1_countTrains_41 : decode cX1_countTrains 41 = .ok (.goto (-37), 3) := by decide +kernel
theorem dX1_countTrains_44 : decode cX1_countTrains 44 = .ok (.iload_n 1, 1) := by decide +kernel
theorem dX1_countTrains_45 : decode cX1_countTrains 45 = .ok (.ireturn, 1) := by decide +kernel
set_option maxRecDepth 20000 in
theorem ggX1_startOf_X1_carAt : GoodIn wsX1_startOf wsX1_carAt := goodIn_r _ [6, 1, 7, 13, 14, 15, 16] (by decide +kernel) (by decide +kernel)
set_option maxRecDepth 20000 in
theorem gX1_startOf_X1_carAt : GoodIn wsX1_startOf (wsV RX1 25 RX1 yX1_carAt wsX1_carAt) := goodIn_app (goodIn_of _ (by decide +kernel)) ggX1_startOf_X1_carAt
set_option maxRecDepth 20000 in
theorem ggX1_startOf_X1_trainOf : GoodIn wsX1_startOf wsX1_trainOf := goodIn_r _ [11, 12, 13, 14, 15, 16] (by decide +kernel) (by decide +kernel)
set_option maxRecDepth 20000 in
theorem gX1_startOf_X1_trainOf : GoodIn wsX1_startOf (wsV RX1 29 RX1 yX1_trainOf wsX1_trainOf) := goodIn_app (goodIn_of _ (by decide +kernel)) ggX1_startOf_X1_trainOf
theorem dX1_startOf_0 : decode cX1_startOf 0 = .ok (.iconst 0, 1) := by decide +kernel
theorem dX1_startOf_1 : decode cX1_startOf 1 = .ok (.istore_n 2, 1) := by decide +kernel
theorem dX1_startOf_2 : decode cX1_startOf 2 = .ok (.iconst 0, 1) := by decide +kernel
theorem dX1_startOf_3 : decode cX1_startOf 3 = .ok (.istore_n 3, 1) := by decide +kernel
theorem dX1_startOf_4 : decode cX1_startOf 4 = .ok (.iload_n 3, 1) := by decide +kernel
theorem dX1_startOf_5 : decode cX1_startOf 5 = .ok (.aload_n 0, 1) := by decide +kernel
theorem dX1_startOf_6 : decode cX1_startOf 6 = .ok (.getfield 18, 3) := by decide +kernel
theorem dX1_startOf_9 : decode cX1_startOf 9 = .ok (.if_icmp .ge 42, 3) := by decide +kernel
theorem dX1_startOf_12 : decode cX1_startOf 12 = .ok (.aload_n 0, 1) := by decide +kernel
theorem dX1_startOf_13 : decode cX1_startOf 13 = .ok (.aload_n 0, 1) := by decide +kernel
theorem dX1_startOf_14 : decode cX1_startOf 14 = .ok (.iload_n 3, 1) := by decide +kernel
theorem dX1_startOf_15 : decode cX1_startOf 15 = .ok (.invokevirtual 25, 3) := by decide +kernel
theorem dX1_startOf_18 : decode cX1_startOf 18 = .ok (.invokevirtual 29, 3) := by decide +kernel
theorem dX1_startOf_21 : decode cX1_startOf 21 = .ok (.aload_n 0, 1) := by decide +kernel
theorem dX1_startOf_22 : decode cX1_startOf 22 = .ok (.aload_n 0, 1) := by decide +kernel
theorem dX1_startOf_23 : decode cX1_startOf 23 = .ok (.iload_n 3, 1) := by decide +kernel
theorem dX1_startOf_24 : decode cX1_startOf 24 = .ok (.iconst 1, 1) := by decide +kernel
theorem dX1_startOf_25 : decode cX1_startOf 25 = .ok (.isub, 1) := by decide +kernel
theorem dX1_startOf_26 : decode cX1_startOf 26 = .ok (.invokevirtual 25, 3) := by decide +kernel
theorem dX1_startOf_29 : decode cX1_startOf 29 = .ok (.invokevirtual 29, 3) := by decide +kernel
theorem dX1_startOf_32 : decode cX1_startOf 32 = .ok (.if_icmp .eq 13, 3) := by decide +kernel
theorem dX1_startOf_35 : decode cX1_startOf 35 = .ok (.iload_n 2, 1) := by decide +kernel
theorem dX1_startOf_36 : decode cX1_startOf 36 = .ok (.iload_n 1, 1) := by decide +kernel
theorem dX1_startOf_37 : decode cX1_startOf 37 = .ok (.if_icmp .ne 5, 3) := by decide +kernel
theorem dX1_startOf_40 : decode cX1_startOf 40 = .ok (.iload_n 3, 1) := by decide +kernel
theorem dX1_startOf_41 : decode cX1_startOf 41 = .ok (.ireturn, 1) := by decide +kernel
theorem dX1_startOf_42 : decode cX1_startOf 42 = .ok (.iinc 2 1, 3) := by decide +kernel
theorem dX1_startOf_45 : decode cX1_startOf 45 = .ok (.iinc 3 1, 3) := by decide +kernel
theorem dX1_startOf_48 : decode cX1_startOf 48 = .ok (.goto (-44), 3) := by decide +kernel
theorem dX1_startOf_51 : decode cX1_startOf 51 = .ok (.iconst (-1), 1) := by decide +kernel
theorem dX1_startOf_52 : decode cX1_startOf 52 = .ok (.ireturn, 1) := by decide +kernel
set_option maxRecDepth 20000 in
theorem ggX1_carsOf_X1_trainOf : GoodIn wsX1_carsOf wsX1_trainOf := goodIn_r _ [7, 8, 9, 10, 11, 12] (by decide +kernel) (by decide +kernel)
set_option maxRecDepth 20000 in
theorem gX1_carsOf_X1_trainOf : GoodIn wsX1_carsOf (wsV RX1 29 RX1 yX1_trainOf wsX1_trainOf) := goodIn_app (goodIn_of _ (by decide +kernel)) ggX1_carsOf_X1_trainOf
theorem dX1_carsOf_0 : decode cX1_carsOf 0 = .ok (.iconst 0, 1) := by decide +kernel
theorem dX1_carsOf_1 : decode cX1_carsOf 1 = .ok (.istore_n 2, 1) := by decide +kernel
theorem dX1_carsOf_2 : decode cX1_carsOf 2 = .ok (.iconst 0, 1) := by decide +kernel
theorem dX1_carsOf_3 : decode cX1_carsOf 3 = .ok (.istore_n 3, 1) := by decide +kernel
theorem dX1_carsOf_4 : decode cX1_carsOf 4 = .ok (.iload_n 3, 1) := by decide +kernel
theorem dX1_carsOf_5 : decode cX1_carsOf 5 = .ok (.aload_n 0, 1) := by decide +kernel
theorem dX1_carsOf_6 : decode cX1_carsOf 6 = .ok (.getfield 18, 3) := by decide +kernel
theorem dX1_carsOf_9 : decode cX1_carsOf 9 = .ok (.if_icmp .ge 26, 3) := by decide +kernel
theorem dX1_carsOf_12 : decode cX1_carsOf 12 = .ok (.aload_n 0, 1) := by decide +kernel
theorem dX1_carsOf_13 : decode cX1_carsOf 13 = .ok (.aload_n 0, 1) := by decide +kernel
theorem dX1_carsOf_14 : decode cX1_carsOf 14 = .ok (.getfield 9, 3) := by decide +kernel
theorem dX1_carsOf_17 : decode cX1_carsOf 17 = .ok (.iload_n 3, 1) := by decide +kernel
theorem dX1_carsOf_18 : decode cX1_carsOf 18 = .ok (.iaload, 1) := by decide +kernel
theorem dX1_carsOf_19 : decode cX1_carsOf 19 = .ok (.invokevirtual 29, 3) := by decide +kernel
theorem dX1_carsOf_22 : decode cX1_carsOf 22 = .ok (.iload_n 1, 1) := by decide +kernel
theorem dX1_carsOf_23 : decode cX1_carsOf 23 = .ok (.if_icmp .ne 6, 3) := by decide +kernel
theorem dX1_carsOf_26 : decode cX1_carsOf 26 = .ok (.iinc 2 1, 3) := by decide +kernel
theorem dX1_carsOf_29 : decode cX1_carsOf 29 = .ok (.iinc 3 1, 3) := by decide +kernel
theorem dX1_carsOf_32 : decode cX1_carsOf 32 = .ok (.goto (-28), 3) := by decide +kernel
theorem dX1_carsOf_35 : decode cX1_carsOf 35 = .ok (.iload_n 2, 1) := by decide +kernel
theorem dX1_carsOf_36 : decode cX1_carsOf 36 = .ok (.ireturn, 1) := by decide +kernel
set_option maxRecDepth 20000 in
theorem ggX1_lastCarOf_X1_trainOf : GoodIn wsX1_lastCarOf wsX1_trainOf := goodIn_r _ [7, 8, 9, 10, 11, 12] (by decide +kernel) (by decide +kernel)
set_option maxRecDepth 20000 in
theorem gX1_lastCarOf_X1_trainOf : GoodIn wsX1_lastCarOf (wsV RX1 29 RX1 yX1_trainOf wsX1_trainOf) := goodIn_app (goodIn_of _ (by decide +kernel)) ggX1_lastCarOf_X1_trainOf
theorem dX1_lastCarOf_0 : decode cX1_lastCarOf 0 = .ok (.aload_n 0, 1) := by decide +kernel
theorem dX1_lastCarOf_1 : decode cX1_lastCarOf 1 = .ok (.getfield 18, 3) := by decide +kernel
theorem dX1_lastCarOf_4 : decode cX1_lastCarOf 4 = .ok (.iconst 1, 1) := by decide +kernel
theorem dX1_lastCarOf_5 : decode cX1_lastCarOf 5 = .ok (.isub, 1) := by decide +kernel
theorem dX1_lastCarOf_6 : decode cX1_lastCarOf 6 = .ok (.istore_n 2, 1) := by decide +kernel
theorem dX1_lastCarOf_7 : decode cX1_lastCarOf 7 = .ok (.iload_n 2, 1) := by decide +kernel
theorem dX1_lastCarOf_8 : decode cX1_lastCarOf 8 = .ok (.ifCond .lt 30, 3) := by decide +kernel
theorem dX1_lastCarOf_11 : decode cX1_lastCarOf 11 = .ok (.aload_n 0, 1) := by decide +kernel
theorem dX1_lastCarOf_12 : decode cX1_lastCarOf 12 = .ok (.aload_n 0, 1) := by decide +kernel
theorem dX1_lastCarOf_13 : decode cX1_lastCarOf 13 = .ok (.getfield 9, 3) := by decide +kernel
theorem dX1_lastCarOf_16 : decode cX1_lastCarOf 16 = .ok (.iload_n 2, 1) := by decide +kernel
theorem dX1_lastCarOf_17 : decode cX1_lastCarOf 17 = .ok (.iaload, 1) := by decide +kernel
theorem dX1_lastCarOf_18 : decode cX1_lastCarOf 18 = .ok (.invokevirtual 29, 3) := by decide +kernel
theorem dX1_lastCarOf_21 : decode cX1_lastCarOf 21 = .ok (.iload_n 1, 1) := by decide +kernel
theorem dX1_lastCarOf_22 : decode cX1_lastCarOf 22 = .ok (.if_icmp .ne 10, 3) := by decide +kernel
theorem dX1_lastCarOf_25 : decode cX1_lastCarOf 25 = .ok (.aload_n 0, 1) := by decide +kernel
theorem dX1_lastCarOf_26 : decode cX1_lastCarOf 26 = .ok (.getfield 9, 3) := by decide +kernel
theorem dX1_lastCarOf_29 : decode cX1_lastCarOf 29 = .ok (.iload_n 2, 1) := by decide +kernel
theorem dX1_lastCarOf_30 : decode cX1_lastCarOf 30 = .ok (.iaload, 1) := by decide +kernel
theorem dX1_lastCarOf_31 : decode cX1_lastCarOf 31 = .ok (.ireturn, 1) := by decide +kernel
theorem dX1_lastCarOf_32 : decode cX1_lastCarOf 32 = .ok (.iinc 2 (-1), 3) := by decide +kernel
theorem dX1_lastCarOf_35 : decode cX1_lastCarOf 35 = .ok (.goto (-28), 3) := by decide +kernel
theorem dX1_lastCarOf_38 : decode cX1_lastCarOf 38 = .ok (.iconst (-1), 1) := by decide +kernel
theorem dX1_lastCarOf_39 : decode cX1_lastCarOf 39 = .ok (.ireturn, 1) := by decide +kernel
theorem dX1_leastFree_0 : decode cX1_leastFree 0 = .ok (.iconst 0, 1) := by decide +kernel
theorem dX1_leastFree_1 : decode cX1_leastFree 1 = .ok (.istore_n 1, 1) := by decide +kernel
theorem dX1_leastFree_2 : decode cX1_leastFree 2 = .ok (.iload_n 1, 1) := by decide +kernel
theorem dX1_leastFree_3 : decode cX1_leastFree 3 = .ok (.bipush 40, 2) := by decide +kernel
theorem dX1_leastFree_5 : decode cX1_leastFree 5 = .ok (.if_icmp .ge 20, 3) := by decide +kernel
theorem dX1_leastFree_8 : decode cX1_leastFree 8 = .ok (.aload_n 0, 1) := by decide +kernel
theorem dX1_leastFree_9 : decode cX1_leastFree 9 = .ok (.getfield 15, 3) := by decide +kernel
theorem dX1_leastFree_12 : decode cX1_leastFree 12 = .ok (.iload_n 1, 1) := by decide +kernel
theorem dX1_leastFree_13 : decode cX1_leastFree 13 = .ok (.iaload, 1) := by decide +kernel
theorem dX1_leastFree_14 : decode cX1_leastFree 14 = .ok (.ifCond .ne 5, 3) := by decide +kernel
theorem dX1_leastFree_17 : decode cX1_leastFree 17 = .ok (.iload_n 1, 1) := by decide +kernel
theorem dX1_leastFree_18 : decode cX1_leastFree 18 = .ok (.ireturn, 1) := by decide +kernel
theorem dX1_leastFree_19 : decode cX1_leastFree 19 = .ok (.iinc 1 1, 3) := by decide +kernel
theorem dX1_leastFree_22 : decode cX1_leastFree 22 = .ok (.goto (-20), 3) := by decide +kernel
theorem dX1_leastFree_25 : decode cX1_leastFree 25 = .ok (.iconst (-1), 1) := by decide +kernel
theorem dX1_leastFree_26 : decode cX1_leastFree 26 = .ok (.ireturn, 1) := by decide +kernel
set_option maxRecDepth 20000 in
theorem ggX1_addCar_X1_leastFree : GoodIn wsX1_addCar wsX1_leastFree := goodIn_r _ [8, 3, 13, 14, 15, 16] (by decide +kernel) (by decide +kernel)
set_option maxRecDepth 20000 in
theorem gX1_addCar_X1_leastFree : GoodIn wsX1_addCar (wsV RX1 32 RX1 yX1_leastFree wsX1_leastFree) := goodIn_app (goodIn_of _ (by decide +kernel)) ggX1_addCar_X1_leastFree
set_option maxRecDepth 20000 in
theorem ggX1_addCar_X1_trainOf : GoodIn wsX1_addCar wsX1_trainOf := goodIn_r _ [12, 3, 13, 14, 15, 16] (by decide +kernel) (by decide +kernel)
set_option maxRecDepth 20000 in
theorem gX1_addCar_X1_trainOf : GoodIn wsX1_addCar (wsV RX1 29 RX1 yX1_trainOf wsX1_trainOf) := goodIn_app (goodIn_of _ (by decide +kernel)) ggX1_addCar_X1_trainOf
theorem dX1_addCar_0 : decode cX1_addCar 0 = .ok (.aload_n 0, 1) := by decide +kernel
theorem dX1_addCar_1 : decode cX1_addCar 1 = .ok (.invokevirtual 32, 3) := by decide +kernel
theorem dX1_addCar_4 : decode cX1_addCar 4 = .ok (.istore_n 2, 1) := by decide +kernel
theorem dX1_addCar_5 : decode cX1_addCar 5 = .ok (.iload_n 2, 1) := by decide +kernel
theorem dX1_addCar_6 : decode cX1_addCar 6 = .ok (.iconst (-1), 1) := by decide +kernel
theorem dX1_addCar_7 : decode cX1_addCar 7 = .ok (.if_icmp .eq 12, 3) := by decide +kernel
theorem dX1_addCar_10 : decode cX1_addCar 10 = .ok (.aload_n 0, 1) := by decide +kernel
theorem dX1_addCar_11 : decode cX1_addCar 11 = .ok (.getfield 18, 3) := by decide +kernel
theorem dX1_addCar_14 : decode cX1_addCar 14 = .ok (.bipush 40, 2) := by decide +kernel
theorem dX1_addCar_16 : decode cX1_addCar 16 = .ok (.if_icmp .lt 5, 3) := by decide +kernel
theorem dX1_addCar_19 : decode cX1_addCar 19 = .ok (.iconst (-1), 1) := by decide +kernel
theorem dX1_addCar_20 : decode cX1_addCar 20 = .ok (.ireturn, 1) := by decide +kernel
theorem dX1_addCar_21 : decode cX1_addCar 21 = .ok (.aload_n 0, 1) := by decide +kernel
theorem dX1_addCar_22 : decode cX1_addCar 22 = .ok (.getfield 18, 3) := by decide +kernel
theorem dX1_addCar_25 : decode cX1_addCar 25 = .ok (.istore_n 3, 1) := by decide +kernel
theorem dX1_addCar_26 : decode cX1_addCar 26 = .ok (.iload_n 3, 1) := by decide +kernel
theorem dX1_addCar_27 : decode cX1_addCar 27 = .ok (.ifCond .le 39, 3) := by decide +kernel
theorem dX1_addCar_30 : decode cX1_addCar 30 = .ok (.aload_n 0, 1) := by decide +kernel
theorem dX1_addCar_31 : decode cX1_addCar 31 = .ok (.aload_n 0, 1) := by decide +kernel
theorem dX1_addCar_32 : decode cX1_addCar 32 = .ok (.getfield 9, 3) := by decide +kernel
theorem dX1_addCar_35 : decode cX1_addCar 35 = .ok (.iload_n 3, 1) := by decide +kernel
theorem dX1_addCar_36 : decode cX1_addCar 36 = .ok (.iconst 1, 1) := by decide +kernel
theorem dX1_addCar_37 : decode cX1_addCar 37 = .ok (.isub, 1) := by decide +kernel
theorem dX1_addCar_38 : decode cX1_addCar 38 = .ok (.iaload, 1) := by decide +kernel
theorem dX1_addCar_39 : decode cX1_addCar 39 = .ok (.invokevirtual 29, 3) := by decide +kernel
theorem dX1_addCar_42 : decode cX1_addCar 42 = .ok (.iload_n 1, 1) := by decide +kernel
theorem dX1_addCar_43 : decode cX1_addCar 43 = .ok (.if_icmp .le 23, 3) := by decide +kernel
theorem dX1_addCar_46 : decode cX1_addCar 46 = .ok (.aload_n 0, 1) := by decide +kernel
theorem dX1_addCar_47 : decode cX1_addCar 47 = .ok (.getfield 9, 3) := by decide +kernel
theorem dX1_addCar_50 : decode cX1_addCar 50 = .ok (.iload_n 3, 1) := by decide +kernel
theorem dX1_addCar_51 : decode cX1_addCar 51 = .ok (.aload_n 0, 1) := by decide +kernel
theorem dX1_addCar_52 : decode cX1_addCar 52 = .ok (.getfield 9, 3) := by decide +kernel
theorem dX1_addCar_55 : decode cX1_addCar 55 = .ok (.iload_n 3, 1) := by decide +kernel
theorem dX1_addCar_56 : decode cX1_addCar 56 = .ok (.iconst 1, 1) := by decide +kernel
theorem dX1_addCar_57 : decode cX1_addCar 57 = .ok (.isub, 1) := by decide +kernel
theorem dX1_addCar_58 : decode cX1_addCar 58 = .ok (.iaload, 1) := by decide +kernel
theorem dX1_addCar_59 : decode cX1_addCar 59 = .ok (.iastore, 1) := by decide +kernel
theorem dX1_addCar_60 : decode cX1_addCar 60 = .ok (.iinc 3 (-1), 3) := by decide +kernel
theorem dX1_addCar_63 : decode cX1_addCar 63 = .ok (.goto (-37), 3) := by decide +kernel
theorem dX1_addCar_66 : decode cX1_addCar 66 = .ok (.aload_n 0, 1) := by decide +kernel
theorem dX1_addCar_67 : decode cX1_addCar 67 = .ok (.getfield 9, 3) := by decide +kernel
theorem dX1_addCar_70 : decode cX1_addCar 70 = .ok (.iload_n 3, 1) := by decide +kernel
theorem dX1_addCar_71 : decode cX1_addCar 71 = .ok (.iload_n 2, 1) := by decide +kernel
theorem dX1_addCar_72 : decode cX1_addCar 72 = .ok (.iastore, 1) := by decide +kernel
theorem dX1_addCar_73 : decode cX1_addCar 73 = .ok (.aload_n 0, 1) := by decide +kernel
theorem dX1_addCar_74 : decode cX1_addCar 74 = .ok (.getfield 15, 3) := by decide +kernel
theorem dX1_addCar_77 : decode cX1_addCar 77 = .ok (.iload_n 2, 1) := by decide +kernel
theorem dX1_addCar_78 : decode cX1_addCar 78 = .ok (.iload_n 1, 1) := by decide +kernel
theorem dX1_addCar_79 : decode cX1_addCar 79 = .ok (.iastore, 1) := by decide +kernel
theorem dX1_addCar_80 : decode cX1_addCar 80 = .ok (.aload_n 0, 1) := by decide +kernel
theorem dX1_addCar_81 : decode cX1_addCar 81 = .ok (.dup, 1) := by decide +kernel
theorem dX1_addCar_82 : decode cX1_addCar 82 = .ok (.getfield 18, 3) := by decide +kernel
theorem dX1_addCar_85 : decode cX1_addCar 85 = .ok (.iconst 1, 1) := by decide +kernel
theorem dX1_addCar_86 : decode cX1_addCar 86 = .ok (.iadd, 1) := by decide +kernel
theorem dX1_addCar_87 : decode cX1_addCar 87 = .ok (.putfield 18, 3) := by decide +kernel
theorem dX1_addCar_90 : decode cX1_addCar 90 = .ok (.iload_n 2, 1) := by decide +kernel
theorem dX1_addCar_91 : decode cX1_addCar 91 = .ok (.ireturn, 1) := by decide +kernel
set_option maxRecDepth 20000 in
theorem ggX1_addTrain_X1_countFree : GoodIn wsX1_addTrain wsX1_countFree := goodIn_r _ [6, 7, 22, 23, 24, 25] (by decide +kernel) (by decide +kernel)
set_option maxRecDepth 20000 in
theorem gX1_addTrain_X1_countFree : GoodIn wsX1_addTrain (wsV RX1 36 RX1 yX1_countFree wsX1_countFree) := goodIn_app (goodIn_of _ (by decide +kernel)) ggX1_addTrain_X1_countFree
set_option maxRecDepth 20000 in
theorem ggX1_addTrain_X1_addCar : GoodIn wsX1_addTrain wsX1_addCar := goodIn_r _ [11, 7, 12, 13, 14, 15, 16, 5, 17, 18, 19, 20, 21, 22, 23, 24, 25] (by decide +kernel) (by decide +kernel)
set_option maxRecDepth 20000 in
theorem gX1_addTrain_X1_addCar : GoodIn wsX1_addTrain (wsV RX1 39 RX1 yX1_addCar wsX1_addCar) := goodIn_app (goodIn_of _ (by decide +kernel)) ggX1_addTrain_X1_addCar
theorem dX1_addTrain_0 : decode cX1_addTrain 0 = .ok (.aload_n 0, 1) := by decide +kernel
theorem dX1_addTrain_1 : decode cX1_addTrain 1 = .ok (.invokevirtual 36, 3) := by decide +kernel
theorem dX1_addTrain_4 : decode cX1_addTrain 4 = .ok (.ifCond .ne 5, 3) := by decide +kernel
theorem dX1_addTrain_7 : decode cX1_addTrain 7 = .ok (.iconst (-1), 1) := by decide +kernel
theorem dX1_addTrain_8 : decode cX1_addTrain 8 = .ok (.ireturn, 1) := by decide +kernel
theorem dX1_addTrain_9 : decode cX1_addTrain 9 = .ok (.aload_n 0, 1) := by decide +kernel
theorem dX1_addTrain_10 : decode cX1_addTrain 10 = .ok (.dup, 1) := by decide +kernel
theorem dX1_addTrain_11 : decode cX1_addTrain 11 = .ok (.getfield 22, 3) := by decide +kernel
theorem dX1_addTrain_14 : decode cX1_addTrain 14 = .ok (.iconst 1, 1) := by decide +kernel
theorem dX1_addTrain_15 : decode cX1_addTrain 15 = .ok (.iadd, 1) := by decide +kernel
theorem dX1_addTrain_16 : decode cX1_addTrain 16 = .ok (.putfield 22, 3) := by decide +kernel
theorem dX1_addTrain_19 : decode cX1_addTrain 19 = .ok (.aload_n 0, 1) := by decide +kernel
theorem dX1_addTrain_20 : decode cX1_addTrain 20 = .ok (.aload_n 0, 1) := by decide +kernel
theorem dX1_addTrain_21 : decode cX1_addTrain 21 = .ok (.getfield 22, 3) := by decide +kernel
theorem dX1_addTrain_24 : decode cX1_addTrain 24 = .ok (.invokevirtual 39, 3) := by decide +kernel
theorem dX1_addTrain_27 : decode cX1_addTrain 27 = .ok (.ireturn, 1) := by decide +kernel
set_option maxRecDepth 20000 in
theorem ggX1_removeFirstCar_X1_carAt : GoodIn wsX1_removeFirstCar wsX1_carAt := goodIn_r _ [8, 2, 3, 12, 13, 14, 15] (by decide +kernel) (by decide +kernel)
set_option maxRecDepth 20000 in
theorem gX1_removeFirstCar_X1_carAt : GoodIn wsX1_removeFirstCar (wsV RX1 25 RX1 yX1_carAt wsX1_carAt) := goodIn_app (goodIn_of _ (by decide +kernel)) ggX1_removeFirstCar_X1_carAt
set_option maxRecDepth 20000 in
theorem ggX1_removeFirstCar_X4_isCar : GoodIn wsX1_removeFirstCar wsX4_isCar := goodIn_r _ [11] (by decide +kernel) (by decide +kernel)
set_option maxRecDepth 20000 in
theorem gX1_removeFirstCar_X4_isCar_n42 : GoodIn wsX1_removeFirstCar (wsX4_isCar) := ggX1_removeFirstCar_X4_isCar
theorem dX1_removeFirstCar_0 : decode cX1_removeFirstCar 0 = .ok (.aload_n 0, 1) := by decide +kernel
theorem dX1_removeFirstCar_1 : decode cX1_removeFirstCar 1 = .ok (.iconst 0, 1) := by decide +kernel
theorem dX1_removeFirstCar_2 : decode cX1_removeFirstCar 2 = .ok (.invokevirtual 25, 3) := by decide +kernel
theorem dX1_removeFirstCar_5 : decode cX1_removeFirstCar 5 = .ok (.istore_n 1, 1) := by decide +kernel
theorem dX1_removeFirstCar_6 : decode cX1_removeFirstCar 6 = .ok (.iload_n 1, 1) := by decide +kernel
theorem dX1_removeFirstCar_7 : decode cX1_removeFirstCar 7 = .ok (.invokestatic 42, 3) := by decide +kernel
theorem dX1_removeFirstCar_10 : decode cX1_removeFirstCar 10 = .ok (.ifCond .ne 4, 3) := by decide +kernel
theorem dX1_removeFirstCar_13 : decode cX1_removeFirstCar 13 = .ok (.return_, 1) := by decide +kernel
theorem dX1_removeFirstCar_14 : decode cX1_removeFirstCar 14 = .ok (.aload_n 0, 1) := by decide +kernel
theorem dX1_removeFirstCar_15 : decode cX1_removeFirstCar 15 = .ok (.getfield 15, 3) := by decide +kernel
theorem dX1_removeFirstCar_18 : decode cX1_removeFirstCar 18 = .ok (.iload_n 1, 1) := by decide +kernel
theorem dX1_removeFirstCar_19 : decode cX1_removeFirstCar 19 = .ok (.iconst 0, 1) := by decide +kernel
theorem dX1_removeFirstCar_20 : decode cX1_removeFirstCar 20 = .ok (.iastore, 1) := by decide +kernel
theorem dX1_removeFirstCar_21 : decode cX1_removeFirstCar 21 = .ok (.iconst 1, 1) := by decide +kernel
theorem dX1_removeFirstCar_22 : decode cX1_removeFirstCar 22 = .ok (.istore_n 2, 1) := by decide +kernel
theorem dX1_removeFirstCar_23 : decode cX1_removeFirstCar 23 = .ok (.iload_n 2, 1) := by decide +kernel
theorem dX1_removeFirstCar_24 : decode cX1_removeFirstCar 24 = .ok (.aload_n 0, 1) := by decide +kernel
theorem dX1_removeFirstCar_25 : decode cX1_removeFirstCar 25 = .ok (.getfield 18, 3) := by decide +kernel
theorem dX1_removeFirstCar_28 : decode cX1_removeFirstCar 28 = .ok (.if_icmp .ge 23, 3) := by decide +kernel
theorem dX1_removeFirstCar_31 : decode cX1_removeFirstCar 31 = .ok (.aload_n 0, 1) := by decide +kernel
theorem dX1_removeFirstCar_32 : decode cX1_removeFirstCar 32 = .ok (.getfield 9, 3) := by decide +kernel
theorem dX1_removeFirstCar_35 : decode cX1_removeFirstCar 35 = .ok (.iload_n 2, 1) := by decide +kernel
theorem dX1_removeFirstCar_36 : decode cX1_removeFirstCar 36 = .ok (.iconst 1, 1) := by decide +kernel
theorem dX1_removeFirstCar_37 : decode cX1_removeFirstCar 37 = .ok (.isub, 1) := by decide +kernel
theorem dX1_removeFirstCar_38 : decode cX1_removeFirstCar 38 = .ok (.aload_n 0, 1) := by decide +kernel
theorem dX1_removeFirstCar_39 : decode cX1_removeFirstCar 39 = .ok (.getfield 9, 3) := by decide +kernel
theorem dX1_removeFirstCar_42 : decode cX1_removeFirstCar 42 = .ok (.iload_n 2, 1) := by decide +kernel
theorem dX1_removeFirstCar_43 : decode cX1_removeFirstCar 43 = .ok (.iaload, 1) := by decide +kernel
theorem dX1_removeFirstCar_44 : decode cX1_removeFirstCar 44 = .ok (.iastore, 1) := by decide +kernel
theorem dX1_removeFirstCar_45 : decode cX1_removeFirstCar 45 = .ok (.iinc 2 1, 3) := by decide +kernel
theorem dX1_removeFirstCar_48 : decode cX1_removeFirstCar 48 = .ok (.goto (-25), 3) := by decide +kernel
theorem dX1_removeFirstCar_51 : decode cX1_removeFirstCar 51 = .ok (.aload_n 0, 1) := by decide +kernel
theorem dX1_removeFirstCar_52 : decode cX1_removeFirstCar 52 = .ok (.dup, 1) := by decide +kernel
theorem dX1_removeFirstCar_53 : decode cX1_removeFirstCar 53 = .ok (.getfield 18, 3) := by decide +kernel
theorem dX1_removeFirstCar_56 : decode cX1_removeFirstCar 56 = .ok (.iconst 1, 1) := by decide +kernel
theorem dX1_removeFirstCar_57 : decode cX1_removeFirstCar 57 = .ok (.isub, 1) := by decide +kernel
theorem dX1_removeFirstCar_58 : decode cX1_removeFirstCar 58 = .ok (.putfield 18, 3) := by decide +kernel
theorem dX1_removeFirstCar_61 : decode cX1_removeFirstCar 61 = .ok (.return_, 1) := by decide +kernel
theorem dX2_init_0 : decode cX2_init 0 = .ok (.aload_n 0, 1) := by decide +kernel
theorem dX2_init_1 : decode cX2_init 1 = .ok (.invokespecial 3, 3) := by decide +kernel
theorem dX2_init_4 : decode cX2_init 4 = .ok (.aload_n 0, 1) := by decide +kernel
theorem dX2_init_5 : decode cX2_init 5 = .ok (.sipush 1280, 3) := by decide +kernel
theorem dX2_init_8 : decode cX2_init 8 = .ok (.newarray .int, 2) := by decide +kernel
theorem dX2_init_10 : decode cX2_init 10 = .ok (.putfield 9, 3) := by decide +kernel
theorem dX2_init_13 : decode cX2_init 13 = .ok (.aload_n 0, 1) := by decide +kernel
theorem dX2_init_14 : decode cX2_init 14 = .ok (.sipush 640, 3) := by decide +kernel
theorem dX2_init_17 : decode cX2_init 17 = .ok (.newarray .int, 2) := by decide +kernel
theorem dX2_init_19 : decode cX2_init 19 = .ok (.putfield 15, 3) := by decide +kernel
theorem dX2_init_22 : decode cX2_init 22 = .ok (.aload_n 0, 1) := by decide +kernel
theorem dX2_init_23 : decode cX2_init 23 = .ok (.iconst 0, 1) := by decide +kernel
theorem dX2_init_24 : decode cX2_init 24 = .ok (.putfield 18, 3) := by decide +kernel
theorem dX2_init_27 : decode cX2_init 27 = .ok (.aload_n 0, 1) := by decide +kernel
theorem dX2_init_28 : decode cX2_init 28 = .ok (.iconst 0, 1) := by decide +kernel
theorem dX2_init_29 : decode cX2_init 29 = .ok (.putfield 22, 3) := by decide +kernel
theorem dX2_init_32 : decode cX2_init 32 = .ok (.return_, 1) := by decide +kernel
set_option maxRecDepth 20000 in
theorem ggX2_countFrom_X2_visit : GoodIn wsX2_countFrom wsX2_visit := goodIn_r _ [8, 9, 1, 2, 3, 10, 11, 12, 24, 25, 26, 27] (by decide +kernel) (by decide +kernel)
set_option maxRecDepth 20000 in
theorem gX2_countFrom_X2_visit : GoodIn wsX2_countFrom (wsV RX2 25 RX2 yX2_visit wsX2_visit) := goodIn_app (goodIn_of _ (by decide +kernel)) ggX2_countFrom_X2_visit
set_option maxRecDepth 20000 in
theorem ggX2_countFrom_X0_references : GoodIn wsX2_countFrom wsX0_references := goodIn_r _ [17, 18, 19, 20, 16, 21, 22, 28, 29, 30, 31, 32] (by decide +kernel) (by decide +kernel)
set_option maxRecDepth 20000 in
theorem gX2_countFrom_X0_references : GoodIn wsX2_countFrom (wsV RX2 29 RX0 yX0_references wsX0_references) := goodIn_app (goodIn_of _ (by decide +kernel)) ggX2_countFrom_X0_references
set_option maxRecDepth 20000 in
theorem ggX2_countFrom_X0_at : GoodIn wsX2_countFrom wsX0_at := goodIn_r _ [21, 22, 28, 29, 30, 31, 32] (by decide +kernel) (by decide +kernel)
set_option maxRecDepth 20000 in
theorem gX2_countFrom_X0_at : GoodIn wsX2_countFrom (wsV RX2 35 RX0 yX0_at wsX0_at) := goodIn_app (goodIn_of _ (by decide +kernel)) ggX2_countFrom_X0_at
theorem dX2_countFrom_0 : decode cX2_countFrom 0 = .ok (.aload_n 0, 1) := by decide +kernel
theorem dX2_countFrom_1 : decode cX2_countFrom 1 = .ok (.dup, 1) := by decide +kernel
theorem dX2_countFrom_2 : decode cX2_countFrom 2 = .ok (.getfield 22, 3) := by decide +kernel
theorem dX2_countFrom_5 : decode cX2_countFrom 5 = .ok (.iconst 1, 1) := by decide +kernel
theorem dX2_countFrom_6 : decode cX2_countFrom 6 = .ok (.iadd, 1) := by decide +kernel
theorem dX2_countFrom_7 : decode cX2_countFrom 7 = .ok (.putfield 22, 3) := by decide +kernel
theorem dX2_countFrom_10 : decode cX2_countFrom 10 = .ok (.aload_n 0, 1) := by decide +kernel
theorem dX2_countFrom_11 : decode cX2_countFrom 11 = .ok (.iconst 0, 1) := by decide +kernel
theorem dX2_countFrom_12 : decode cX2_countFrom 12 = .ok (.putfield 18, 3) := by decide +kernel
theorem dX2_countFrom_15 : decode cX2_countFrom 15 = .ok (.aload_n 1, 1) := by decide +kernel
theorem dX2_countFrom_16 : decode cX2_countFrom 16 = .ok (.astore_n 3, 1) := by decide +kernel
theorem dX2_countFrom_17 : decode cX2_countFrom 17 = .ok (.aload_n 3, 1) := by decide +kernel
theorem dX2_countFrom_18 : decode cX2_countFrom 18 = .ok (.arraylength, 1) := by decide +kernel
theorem dX2_countFrom_19 : decode cX2_countFrom 19 = .ok (.istore 4, 2) := by decide +kernel
theorem dX2_countFrom_21 : decode cX2_countFrom 21 = .ok (.iconst 0, 1) := by decide +kernel
theorem dX2_countFrom_22 : decode cX2_countFrom 22 = .ok (.istore 5, 2) := by decide +kernel
theorem dX2_countFrom_24 : decode cX2_countFrom 24 = .ok (.iload 5, 2) := by decide +kernel
theorem dX2_countFrom_26 : decode cX2_countFrom 26 = .ok (.iload 4, 2) := by decide +kernel
theorem dX2_countFrom_28 : decode cX2_countFrom 28 = .ok (.if_icmp .ge 21, 3) := by decide +kernel
theorem dX2_countFrom_31 : decode cX2_countFrom 31 = .ok (.aload_n 3, 1) := by decide +kernel
theorem dX2_countFrom_32 : decode cX2_countFrom 32 = .ok (.iload 5, 2) := by decide +kernel
theorem dX2_countFrom_34 : decode cX2_countFrom 34 = .ok (.iaload, 1) := by decide +kernel
theorem dX2_countFrom_35 : decode cX2_countFrom 35 = .ok (.istore 6, 2) := by decide +kernel
theorem dX2_countFrom_37 : decode cX2_countFrom 37 = .ok (.aload_n 0, 1) := by decide +kernel
theorem dX2_countFrom_38 : decode cX2_countFrom 38 = .ok (.iload 6, 2) := by decide +kernel
theorem dX2_countFrom_40 : decode cX2_countFrom 40 = .ok (.invokevirtual 25, 3) := by decide +kernel
theorem dX2_countFrom_43 : decode cX2_countFrom 43 = .ok (.iinc 5 1, 3) := by decide +kernel
theorem dX2_countFrom_46 : decode cX2_countFrom 46 = .ok (.goto (-22), 3) := by decide +kernel
theorem dX2_countFrom_49 : decode cX2_countFrom 49 = .ok (.iconst 0, 1) := by decide +kernel
theorem dX2_countFrom_50 : decode cX2_countFrom 50 = .ok (.istore_n 3, 1) := by decide +kernel
theorem dX2_countFrom_51 : decode cX2_countFrom 51 = .ok (.iload_n 3, 1) := by decide +kernel
theorem dX2_countFrom_52 : decode cX2_countFrom 52 = .ok (.aload_n 0, 1) := by decide +kernel
theorem dX2_countFrom_53 : decode cX2_countFrom 53 = .ok (.getfield 18, 3) := by decide +kernel
theorem dX2_countFrom_56 : decode cX2_countFrom 56 = .ok (.if_icmp .ge 72, 3) := by decide +kernel
theorem dX2_countFrom_59 : decode cX2_countFrom 59 = .ok (.iload_n 3, 1) := by decide +kernel
theorem dX2_countFrom_60 : decode cX2_countFrom 60 = .ok (.aload_n 0, 1) := by decide +kernel
theorem dX2_countFrom_61 : decode cX2_countFrom 61 = .ok (.getfield 15, 3) := by decide +kernel
theorem dX2_countFrom_64 : decode cX2_countFrom 64 = .ok (.arraylength, 1) := by decide +kernel
theorem dX2_countFrom_65 : decode cX2_countFrom 65 = .ok (.if_icmp .ge 63, 3) := by decide +kernel
theorem dX2_countFrom_68 : decode cX2_countFrom 68 = .ok (.aload_n 0, 1) := by decide +kernel
theorem dX2_countFrom_69 : decode cX2_countFrom 69 = .ok (.getfield 15, 3) := by decide +kernel
theorem dX2_countFrom_72 : decode cX2_countFrom 72 = .ok (.iload_n 3, 1) := by decide +kernel
theorem dX2_countFrom_73 : decode cX2_countFrom 73 = .ok (.iaload, 1) := by decide +kernel
theorem dX2_countFrom_74 : decode cX2_countFrom 74 = .ok (.iconst 2, 1) := by decide +kernel
theorem dX2_countFrom_75 : decode cX2_countFrom 75 = .ok (.iadd, 1) := by decide +kernel
theorem dX2_countFrom_76 : decode cX2_countFrom 76 = .ok (.aload_n 2, 1) := by decide +kernel
theorem dX2_countFrom_77 : decode cX2_countFrom 77 = .ok (.aload_n 0, 1) := by decide +kernel
theorem dX2_countFrom_78 : decode cX2_countFrom 78 = .ok (.getfield 15, 3) := by decide +kernel
theorem dX2_countFrom_81 : decode cX2_countFrom 81 = .ok (.iload_n 3, 1) := by decide +kernel
theorem dX2_countFrom_82 : decode cX2_countFrom 82 = .ok (.iaload, 1) := by decide +kernel
theorem dX2_countFrom_83 : decode cX2_countFrom 83 = .ok (.invokevirtual 29, 3) := by decide +kernel
theorem dX2_countFrom_86 : decode cX2_countFrom 86 = .ok (.iadd, 1) := by decide +kernel
theorem dX2_countFrom_87 : decode cX2_countFrom 87 = .ok (.istore 4, 2) := by decide +kernel
theorem dX2_countFrom_89 : decode cX2_countFrom 89 = .ok (.aload_n 0, 1) := by decide +kernel
theorem dX2_countFrom_90 : decode cX2_countFrom 90 = .ok (.getfield 15, 3) := by decide +kernel
theorem dX2_countFrom_93 : decode cX2_countFrom 93 = .ok (.iload_n 3, 1) := by decide +kernel
theorem dX2_countFrom_94 : decode cX2_countFrom 94 = .ok (.iaload, 1) := by decide +kernel
theorem dX2_countFrom_95 : decode cX2_countFrom 95 = .ok (.iconst 2, 1) := by decide +kernel
theorem dX2_countFrom_96 : decode cX2_countFrom 96 = .ok (.iadd, 1) := by decide +kernel
theorem dX2_countFrom_97 : decode cX2_countFrom 97 = .ok (.istore 5, 2) := by decide +kernel
theorem dX2_countFrom_99 : decode cX2_countFrom 99 = .ok (.iload 5, 2) := by decide +kernel
theorem dX2_countFrom_101 : decode cX2_countFrom 101 = .ok (.iload 4, 2) := by decide +kernel
theorem dX2_countFrom_103 : decode cX2_countFrom 103 = .ok (.if_icmp .ge 19, 3) := by decide +kernel
theorem dX2_countFrom_106 : decode cX2_countFrom 106 = .ok (.aload_n 0, 1) := by decide +kernel
theorem dX2_countFrom_107 : decode cX2_countFrom 107 = .ok (.aload_n 2, 1) := by decide +kernel
theorem dX2_countFrom_108 : decode cX2_countFrom 108 = .ok (.iload 5, 2) := by decide +kernel
theorem dX2_countFrom_110 : decode cX2_countFrom 110 = .ok (.invokevirtual 35, 3) := by decide +kernel
theorem dX2_countFrom_113 : decode cX2_countFrom 113 = .ok (.invokevirtual 25, 3) := by decide +kernel
theorem dX2_countFrom_116 : decode cX2_countFrom 116 = .ok (.iinc 5 1, 3) := by decide +kernel
theorem dX2_countFrom_119 : decode cX2_countFrom 119 = .ok (.goto (-20), 3) := by decide +kernel
theorem dX2_countFrom_122 : decode cX2_countFrom 122 = .ok (.iinc 3 1, 3) := by decide +kernel
theorem dX2_countFrom_125 : decode cX2_countFrom 125 = .ok (.goto (-74), 3) := by decide +kernel
theorem dX2_countFrom_128 : decode cX2_countFrom 128 = .ok (.aload_n 0, 1) := by decide +kernel
theorem dX2_countFrom_129 : decode cX2_countFrom 129 = .ok (.getfield 18, 3) := by decide +kernel
theorem dX2_countFrom_132 : decode cX2_countFrom 132 = .ok (.ireturn, 1) := by decide +kernel
set_option maxRecDepth 20000 in
theorem ggX2_visit_X4_isPlace : GoodIn wsX2_visit wsX4_isPlace := goodIn_r _ [7] (by decide +kernel) (by decide +kernel)
set_option maxRecDepth 20000 in
theorem gX2_visit_X4_isPlace_n38 : GoodIn wsX2_visit (wsX4_isPlace) := ggX2_visit_X4_isPlace
theorem dX2_visit_0 : decode cX2_visit 0 = .ok (.iload_n 1, 1) := by decide +kernel
theorem dX2_visit_1 : decode cX2_visit 1 = .ok (.invokestatic 38, 3) := by decide +kernel
theorem dX2_visit_4 : decode cX2_visit 4 = .ok (.ifCond .eq 58, 3) := by decide +kernel
theorem dX2_visit_7 : decode cX2_visit 7 = .ok (.aload_n 0, 1) := by decide +kernel
theorem dX2_visit_8 : decode cX2_visit 8 = .ok (.getfield 9, 3) := by decide +kernel
theorem dX2_visit_11 : decode cX2_visit 11 = .ok (.iload_n 1, 1) := by decide +kernel
theorem dX2_visit_12 : decode cX2_visit 12 = .ok (.iaload, 1) := by decide +kernel
theorem dX2_visit_13 : decode cX2_visit 13 = .ok (.aload_n 0, 1) := by decide +kernel
theorem dX2_visit_14 : decode cX2_visit 14 = .ok (.getfield 22, 3) := by decide +kernel
theorem dX2_visit_17 : decode cX2_visit 17 = .ok (.if_icmp .eq 45, 3) := by decide +kernel
theorem dX2_visit_20 : decode cX2_visit 20 = .ok (.aload_n 0, 1) := by decide +kernel
theorem dX2_visit_21 : decode cX2_visit 21 = .ok (.getfield 18, 3) := by decide +kernel
theorem dX2_visit_24 : decode cX2_visit 24 = .ok (.aload_n 0, 1) := by decide +kernel
theorem dX2_visit_25 : decode cX2_visit 25 = .ok (.getfield 15, 3) := by decide +kernel
theorem dX2_visit_28 : decode cX2_visit 28 = .ok (.arraylength, 1) := by decide +kernel
theorem dX2_visit_29 : decode cX2_visit 29 = .ok (.if_icmp .ge 33, 3) := by decide +kernel
theorem dX2_visit_32 : decode cX2_visit 32 = .ok (.aload_n 0, 1) := by decide +kernel
theorem dX2_visit_33 : decode cX2_visit 33 = .ok (.getfield 9, 3) := by decide +kernel
theorem dX2_visit_36 : decode cX2_visit 36 = .ok (.iload_n 1, 1) := by decide +kernel
theorem dX2_visit_37 : decode cX2_visit 37 = .ok (.aload_n 0, 1) := by decide +kernel
theorem dX2_visit_38 : decode cX2_visit 38 = .ok (.getfield 22, 3) := by decide +kernel
theorem dX2_visit_41 : decode cX2_visit 41 = .ok (.iastore, 1) := by decide +kernel
theorem dX2_visit_42 : decode cX2_visit 42 = .ok (.aload_n 0, 1) := by decide +kernel
theorem dX2_visit_43 : decode cX2_visit 43 = .ok (.getfield 15, 3) := by decide +kernel
theorem dX2_visit_46 : decode cX2_visit 46 = .ok (.aload_n 0, 1) := by decide +kernel
theorem dX2_visit_47 : decode cX2_visit 47 = .ok (.getfield 18, 3) := by decide +kernel
theorem dX2_visit_50 : decode cX2_visit 50 = .ok (.iload_n 1, 1) := by decide +kernel
theorem dX2_visit_51 : decode cX2_visit 51 = .ok (.iastore, 1) := by decide +kernel
theorem dX2_visit_52 : decode cX2_visit 52 = .ok (.aload_n 0, 1) := by decide +kernel
theorem dX2_visit_53 : decode cX2_visit 53 = .ok (.dup, 1) := by decide +kernel
theorem dX2_visit_54 : decode cX2_visit 54 = .ok (.getfield 18, 3) := by decide +kernel
theorem dX2_visit_57 : decode cX2_visit 57 = .ok (.iconst 1, 1) := by decide +kernel
theorem dX2_visit_58 : decode cX2_visit 58 = .ok (.iadd, 1) := by decide +kernel
theorem dX2_visit_59 : decode cX2_visit 59 = .ok (.putfield 18, 3) := by decide +kernel
theorem dX2_visit_62 : decode cX2_visit 62 = .ok (.return_, 1) := by decide +kernel
set_option maxRecDepth 20000 in
theorem ggX3_init_X0_init : GoodIn wsX3_init wsX0_init := goodIn_r _ [25, 26, 2, 3, 12, 27, 28, 29, 30, 31, 32, 44, 45, 46, 47, 48] (by decide +kernel) (by decide +kernel)
set_option maxRecDepth 20000 in
theorem gX3_init_X0_init_n11 : GoodIn wsX3_init (wsX0_init) := ggX3_init_X0_init
set_option maxRecDepth 20000 in
theorem ggX3_init_X1_init : GoodIn wsX3_init wsX1_init := goodIn_r _ [34, 35, 2, 3, 12, 36, 37, 38, 39, 62, 63, 64, 65] (by decide +kernel) (by decide +kernel)
set_option maxRecDepth 20000 in
theorem gX3_init_X1_init_n20 : GoodIn wsX3_init (wsX1_init) := ggX3_init_X1_init
set_option maxRecDepth 20000 in
theorem ggX3_init_J7_fill_53178 : GoodIn wsX3_init wsJ7_fill_53178 := goodIn_r _ [43] (by decide +kernel) (by decide +kernel)
set_option maxRecDepth 20000 in
theorem gX3_init_J7_fill_53178 : GoodIn wsX3_init (va_wsS RX3 60 yJ7_fill_53178 wsJ7_fill_53178) := goodIn_app (goodIn_of _ (by decide +kernel)) ggX3_init_J7_fill_53178
