theorem dX4_init_0 : decode cX4_init 0 = .ok (.aload_n 0, 1) := by decide +kernel
theorem dX4_init_1 : decode cX4_init 1 = .ok (.invokespecial 3, 3) := by decide +kernel
theorem dX4_init_4 : decode cX4_init 4 = .ok (.aload_n 0, 1) := by decide +kernel
theorem dX4_init_5 : decode cX4_init 5 = .ok (.new 9, 3) := by decide +kernel
theorem dX4_init_8 : decode cX4_init 8 = .ok (.dup, 1) := by decide +kernel
theorem dX4_init_9 : decode cX4_init 9 = .ok (.invokespecial 11, 3) := by decide +kernel
theorem dX4_init_12 : decode cX4_init 12 = .ok (.putfield 12, 3) := by decide +kernel
theorem dX4_init_15 : decode cX4_init 15 = .ok (.aload_n 0, 1) := by decide +kernel
theorem dX4_init_16 : decode cX4_init 16 = .ok (.new 16, 3) := by decide +kernel
theorem dX4_init_19 : decode cX4_init 19 = .ok (.dup, 1) := by decide +kernel
theorem dX4_init_20 : decode cX4_init 20 = .ok (.invokespecial 18, 3) := by decide +kernel
theorem dX4_init_23 : decode cX4_init 23 = .ok (.putfield 19, 3) := by decide +kernel
theorem dX4_init_26 : decode cX4_init 26 = .ok (.aload_n 0, 1) := by decide +kernel
theorem dX4_init_27 : decode cX4_init 27 = .ok (.iconst 4, 1) := by decide +kernel
theorem dX4_init_28 : decode cX4_init 28 = .ok (.putfield 23, 3) := by decide +kernel
theorem dX4_init_31 : decode cX4_init 31 = .ok (.aload_n 0, 1) := by decide +kernel
theorem dX4_init_32 : decode cX4_init 32 = .ok (.iconst 0, 1) := by decide +kernel
theorem dX4_init_33 : decode cX4_init 33 = .ok (.putfield 27, 3) := by decide +kernel
theorem dX4_init_36 : decode cX4_init 36 = .ok (.return_, 1) := by decide +kernel
theorem dX4_length_0 : decode cX4_length 0 = .ok (.iload_n 1, 1) := by decide +kernel
theorem dX4_length_1 : decode cX4_length 1 = .ok (.iconst 1, 1) := by decide +kernel
theorem dX4_length_2 : decode cX4_length 2 = .ok (.if_icmp .lt 9, 3) := by decide +kernel
theorem dX4_length_5 : decode cX4_length 5 = .ok (.iload_n 1, 1) := by decide +kernel
theorem dX4_length_6 : decode cX4_length 6 = .ok (.bipush 40, 2) := by decide +kernel
theorem dX4_length_8 : decode cX4_length 8 = .ok (.if_icmp .le 13, 3) := by decide +kernel
theorem dX4_length_11 : decode cX4_length 11 = .ok (.new 30, 3) := by decide +kernel
theorem dX4_length_14 : decode cX4_length 14 = .ok (.dup, 1) := by decide +kernel
theorem dX4_length_15 : decode cX4_length 15 = .ok (.ldc 32, 2) := by decide +kernel
theorem dX4_length_17 : decode cX4_length 17 = .ok (.invokespecial 34, 3) := by decide +kernel
theorem dX4_length_20 : decode cX4_length 20 = .ok (.athrow, 1) := by decide +kernel
theorem dX4_length_21 : decode cX4_length 21 = .ok (.aload_n 0, 1) := by decide +kernel
theorem dX4_length_22 : decode cX4_length 22 = .ok (.getfield 23, 3) := by decide +kernel
theorem dX4_length_25 : decode cX4_length 25 = .ok (.istore_n 2, 1) := by decide +kernel
theorem dX4_length_26 : decode cX4_length 26 = .ok (.aload_n 0, 1) := by decide +kernel
theorem dX4_length_27 : decode cX4_length 27 = .ok (.iload_n 1, 1) := by decide +kernel
theorem dX4_length_28 : decode cX4_length 28 = .ok (.putfield 23, 3) := by decide +kernel
theorem dX4_length_31 : decode cX4_length 31 = .ok (.iload_n 2, 1) := by decide +kernel
theorem dX4_length_32 : decode cX4_length 32 = .ok (.ireturn, 1) := by decide +kernel
set_option maxRecDepth 20000 in
theorem ggX4_make_X4_needRegister : GoodIn wsX4_make wsX4_needRegister := goodIn_ca (goodIn_r _ [9, 10, 11] (by decide +kernel) (by decide +kernel)) (goodIn_sub (fun _ h => List.mem_cons_of_mem _ (List.mem_append_right _ h)) (by decide +kernel))
set_option maxRecDepth 20000 in
theorem gX4_make_X4_needRegister : GoodIn wsX4_make (va_wsS RX4 37 yX4_needRegister wsX4_needRegister) := goodIn_app (goodIn_of _ (by decide +kernel)) ggX4_make_X4_needRegister
set_option maxRecDepth 20000 in
theorem ggX4_make_X4_isAmount : GoodIn wsX4_make wsX4_isAmount := goodIn_r _ [14] (by decide +kernel) (by decide +kernel)
set_option maxRecDepth 20000 in
theorem gX4_make_X4_isAmount : GoodIn wsX4_make (va_wsS RX4 41 yX4_isAmount wsX4_isAmount) := goodIn_app (goodIn_of _ (by decide +kernel)) ggX4_make_X4_isAmount
set_option maxRecDepth 20000 in
theorem ggX4_make_X3_takesNew : GoodIn wsX4_make wsX3_takesNew := goodIn_r _ [19, 20, 21, 22, 23, 18, 24, 25, 26, 27, 28, 29, 30, 31, 32, 33, 34, 35, 36, 37, 38, 39, 40, 41, 42, 229, 230, 231, 232, 233, 234, 235, 236, 237, 238, 239, 240, 241, 242, 243, 244, 245, 246, 247, 248, 249, 250] (by decide +kernel) (by decide +kernel)
set_option maxRecDepth 20000 in
theorem gX4_make_X3_takesNew : GoodIn wsX4_make (wsV RX4 56 RX3 yX3_takesNew wsX3_takesNew) := goodIn_app (goodIn_of _ (by decide +kernel)) ggX4_make_X3_takesNew
set_option maxRecDepth 20000 in
theorem ggX4_make_X3_canStep : GoodIn wsX4_make wsX3_canStep := goodIn_r _ [46, 20, 39, 40, 41, 29, 42, 31, 229, 230, 231, 232, 233, 234, 235, 236, 237, 238, 239, 240, 241, 242, 243, 244, 245] (by decide +kernel) (by decide +kernel)
set_option maxRecDepth 20000 in
theorem gX4_make_X3_canStep : GoodIn wsX4_make (wsV RX4 59 RX3 yX3_canStep wsX3_canStep) := goodIn_app (goodIn_of _ (by decide +kernel)) ggX4_make_X3_canStep
set_option maxRecDepth 20000 in
theorem ggX4_make_X3_doStep : GoodIn wsX4_make wsX3_doStep := goodIn_r _ [50, 20, 25, 51, 52, 53, 54, 55, 56, 57, 29, 58, 59, 27, 28, 30, 31, 32, 60, 61, 62, 63, 64, 65, 66, 67, 18, 68, 69, 70, 8, 71, 72, 73, 74, 75, 76, 77, 78, 36, 79, 38, 80, 81, 82, 83, 84, 85, 86, 87, 88, 89, 90, 91, 26, 92, 93, 94, 95, 96, 97, 98, 99, 100, 101, 102, 103, 104, 105, 106, 107, 108, 109, 110, 111, 112, 113, 40, 41, 42, 114, 115, 116, 117, 118, 119, 120, 121, 122, 123, 124, 125, 126, 127, 128, 129, 130, 131, 132, 133, 134, 135, 136, 137, 138, 139, 140, 141, 142, 143, 144, 145, 146, 147, 148, 149, 33, 34, 35, 37, 39, 150, 151, 152, 153, 154, 155, 156, 157, 158, 159, 160, 161, 162, 163, 164, 165, 166, 167, 168, 169, 170, 171, 172, 173, 174, 175, 176, 177, 178, 179, 180, 181, 182, 183, 184, 185, 186, 187, 188, 189, 190, 191, 192, 193, 194, 195, 196, 197, 198, 199, 200, 201, 202, 203, 204, 205, 206, 207, 208, 209, 210, 211, 212, 213, 214, 215, 216, 217, 218, 219, 229, 230, 231, 232, 233, 234, 235, 236, 237, 238, 239, 240, 241, 242, 243, 244, 245, 246, 247, 248, 249, 250] (by decide +kernel) (by decide +kernel)
set_option maxRecDepth 20000 in
theorem gX4_make_X3_doStep : GoodIn wsX4_make (wsV RX4 63 RX3 yX3_doStep wsX3_doStep) := goodIn_app (goodIn_of _ (by decide +kernel)) ggX4_make_X3_doStep
set_option maxRecDepth 20000 in
theorem ggX4_make_X3_carForNew : GoodIn wsX4_make wsX3_carForNew := goodIn_r _ [223, 20, 21, 22, 23, 18, 24, 25, 26, 27, 28, 29, 30, 31, 32, 33, 34, 35, 36, 37, 38, 104, 105, 106, 107, 59, 60, 61, 62, 63, 64, 212, 213, 214, 215, 108, 109, 110, 111, 112, 113, 40, 41, 42, 114, 115, 116, 117, 118, 119, 120, 121, 150, 229, 230, 231, 232, 233, 234, 235, 236, 237, 238, 239, 240, 241, 242, 243, 244, 245, 246, 247, 248, 249, 250] (by decide +kernel) (by decide +kernel)
set_option maxRecDepth 20000 in
theorem gX4_make_X3_carForNew : GoodIn wsX4_make (wsV RX4 67 RX3 yX3_carForNew wsX3_carForNew) := goodIn_app (goodIn_of _ (by decide +kernel)) ggX4_make_X3_carForNew
set_option maxRecDepth 20000 in
theorem ggX4_make_X0_load : GoodIn wsX4_make wsX0_load := goodIn_r _ [170, 38, 85, 80, 171, 172, 173, 34, 35, 36, 37, 174, 175, 176, 177, 246, 247, 248, 249, 250] (by decide +kernel) (by decide +kernel)
set_option maxRecDepth 20000 in
theorem gX4_make_X0_load : GoodIn wsX4_make (wsV RX4 79 RX0 yX0_load wsX0_load) := goodIn_app (goodIn_of _ (by decide +kernel)) ggX4_make_X0_load
theorem dX4_make_0 : decode cX4_make 0 = .ok (.iload_n 1, 1) := by decide +kernel
theorem dX4_make_1 : decode cX4_make 1 = .ok (.invokestatic 37, 3) := by decide +kernel
theorem dX4_make_4 : decode cX4_make 4 = .ok (.iload_n 2, 1) := by decide +kernel
theorem dX4_make_5 : decode cX4_make 5 = .ok (.invokestatic 41, 3) := by decide +kernel
theorem dX4_make_8 : decode cX4_make 8 = .ok (.ifCond .eq 10, 3) := by decide +kernel
theorem dX4_make_11 : decode cX4_make 11 = .ok (.iload_n 3, 1) := by decide +kernel
theorem dX4_make_12 : decode cX4_make 12 = .ok (.invokestatic 41, 3) := by decide +kernel
theorem dX4_make_15 : decode cX4_make 15 = .ok (.ifCond .ne 13, 3) := by decide +kernel
theorem dX4_make_18 : decode cX4_make 18 = .ok (.new 30, 3) := by decide +kernel
theorem dX4_make_21 : decode cX4_make 21 = .ok (.dup, 1) := by decide +kernel
theorem dX4_make_22 : decode cX4_make 22 = .ok (.ldc 45, 2) := by decide +kernel
theorem dX4_make_24 : decode cX4_make 24 = .ok (.invokespecial 34, 3) := by decide +kernel
theorem dX4_make_27 : decode cX4_make 27 = .ok (.athrow, 1) := by decide +kernel
theorem dX4_make_28 : decode cX4_make 28 = .ok (.iconst 2, 1) := by decide +kernel
theorem dX4_make_29 : decode cX4_make 29 = .ok (.iload_n 2, 1) := by decide +kernel
theorem dX4_make_30 : decode cX4_make 30 = .ok (.iadd, 1) := by decide +kernel
theorem dX4_make_31 : decode cX4_make 31 = .ok (.iload_n 3, 1) := by decide +kernel
theorem dX4_make_32 : decode cX4_make 32 = .ok (.iadd, 1) := by decide +kernel
theorem dX4_make_33 : decode cX4_make 33 = .ok (.istore 4, 2) := by decide +kernel
theorem dX4_make_35 : decode cX4_make 35 = .ok (.aload_n 0, 1) := by decide +kernel
theorem dX4_make_36 : decode cX4_make 36 = .ok (.getfield 12, 3) := by decide +kernel
theorem dX4_make_39 : decode cX4_make 39 = .ok (.getfield 47, 3) := by decide +kernel
theorem dX4_make_42 : decode cX4_make 42 = .ok (.getfield 51, 3) := by decide +kernel
theorem dX4_make_45 : decode cX4_make 45 = .ok (.istore 5, 2) := by decide +kernel
theorem dX4_make_47 : decode cX4_make 47 = .ok (.iconst 0, 1) := by decide +kernel
theorem dX4_make_48 : decode cX4_make 48 = .ok (.istore 6, 2) := by decide +kernel
theorem dX4_make_50 : decode cX4_make 50 = .ok (.iload 6, 2) := by decide +kernel
theorem dX4_make_52 : decode cX4_make 52 = .ok (.iload 5, 2) := by decide +kernel
theorem dX4_make_54 : decode cX4_make 54 = .ok (.if_icmp .ge 39, 3) := by decide +kernel
theorem dX4_make_57 : decode cX4_make 57 = .ok (.aload_n 0, 1) := by decide +kernel
theorem dX4_make_58 : decode cX4_make 58 = .ok (.getfield 12, 3) := by decide +kernel
theorem dX4_make_61 : decode cX4_make 61 = .ok (.iload 4, 2) := by decide +kernel
theorem dX4_make_63 : decode cX4_make 63 = .ok (.invokevirtual 56, 3) := by decide +kernel
theorem dX4_make_66 : decode cX4_make 66 = .ok (.ifCond .ne 27, 3) := by decide +kernel
theorem dX4_make_69 : decode cX4_make 69 = .ok (.aload_n 0, 1) := by decide +kernel
theorem dX4_make_70 : decode cX4_make 70 = .ok (.getfield 12, 3) := by decide +kernel
theorem dX4_make_73 : decode cX4_make 73 = .ok (.invokevirtual 59, 3) := by decide +kernel
theorem dX4_make_76 : decode cX4_make 76 = .ok (.ifCond .eq 17, 3) := by decide +kernel
theorem dX4_make_79 : decode cX4_make 79 = .ok (.aload_n 0, 1) := by decide +kernel
theorem dX4_make_80 : decode cX4_make 80 = .ok (.getfield 12, 3) := by decide +kernel
theorem dX4_make_83 : decode cX4_make 83 = .ok (.invokevirtual 63, 3) := by decide +kernel
theorem dX4_make_86 : decode cX4_make 86 = .ok (.pop, 1) := by decide +kernel
theorem dX4_make_87 : decode cX4_make 87 = .ok (.iinc 6 1, 3) := by decide +kernel
theorem dX4_make_90 : decode cX4_make 90 = .ok (.goto (-40), 3) := by decide +kernel
theorem dX4_make_93 : decode cX4_make 93 = .ok (.aload_n 0, 1) := by decide +kernel
theorem dX4_make_94 : decode cX4_make 94 = .ok (.getfield 12, 3) := by decide +kernel
theorem dX4_make_97 : decode cX4_make 97 = .ok (.iload 4, 2) := by decide +kernel
theorem dX4_make_99 : decode cX4_make 99 = .ok (.invokevirtual 56, 3) := by decide +kernel
theorem dX4_make_102 : decode cX4_make 102 = .ok (.ifCond .ne 5, 3) := by decide +kernel
theorem dX4_make_105 : decode cX4_make 105 = .ok (.iconst (-1), 1) := by decide +kernel
theorem dX4_make_106 : decode cX4_make 106 = .ok (.ireturn, 1) := by decide +kernel
theorem dX4_make_107 : decode cX4_make 107 = .ok (.aload_n 0, 1) := by decide +kernel
theorem dX4_make_108 : decode cX4_make 108 = .ok (.getfield 12, 3) := by decide +kernel
theorem dX4_make_111 : decode cX4_make 111 = .ok (.iload 4, 2) := by decide +kernel
theorem dX4_make_113 : decode cX4_make 113 = .ok (.aload_n 0, 1) := by decide +kernel
theorem dX4_make_114 : decode cX4_make 114 = .ok (.getfield 23, 3) := by decide +kernel
theorem dX4_make_117 : decode cX4_make 117 = .ok (.invokevirtual 67, 3) := by decide +kernel
theorem dX4_make_120 : decode cX4_make 120 = .ok (.istore 6, 2) := by decide +kernel
theorem dX4_make_122 : decode cX4_make 122 = .ok (.aload_n 0, 1) := by decide +kernel
theorem dX4_make_123 : decode cX4_make 123 = .ok (.dup, 1) := by decide +kernel
theorem dX4_make_124 : decode cX4_make 124 = .ok (.getfield 27, 3) := by decide +kernel
theorem dX4_make_127 : decode cX4_make 127 = .ok (.iconst 1, 1) := by decide +kernel
theorem dX4_make_128 : decode cX4_make 128 = .ok (.iadd, 1) := by decide +kernel
theorem dX4_make_129 : decode cX4_make 129 = .ok (.putfield 27, 3) := by decide +kernel
theorem dX4_make_132 : decode cX4_make 132 = .ok (.aload_n 0, 1) := by decide +kernel
theorem dX4_make_133 : decode cX4_make 133 = .ok (.getfield 12, 3) := by decide +kernel
theorem dX4_make_136 : decode cX4_make 136 = .ok (.getfield 71, 3) := by decide +kernel
theorem dX4_make_139 : decode cX4_make 139 = .ok (.iload_n 1, 1) := by decide +kernel
theorem dX4_make_140 : decode cX4_make 140 = .ok (.aload_n 0, 1) := by decide +kernel
theorem dX4_make_141 : decode cX4_make 141 = .ok (.getfield 12, 3) := by decide +kernel
theorem dX4_make_144 : decode cX4_make 144 = .ok (.getfield 75, 3) := by decide +kernel
theorem dX4_make_147 : decode cX4_make 147 = .ok (.iload 6, 2) := by decide +kernel
theorem dX4_make_149 : decode cX4_make 149 = .ok (.aload_n 0, 1) := by decide +kernel
theorem dX4_make_150 : decode cX4_make 150 = .ok (.getfield 27, 3) := by decide +kernel
theorem dX4_make_153 : decode cX4_make 153 = .ok (.iload_n 2, 1) := by decide +kernel
theorem dX4_make_154 : decode cX4_make 154 = .ok (.iload_n 3, 1) := by decide +kernel
theorem dX4_make_155 : decode cX4_make 155 = .ok (.invokevirtual 79, 3) := by decide +kernel
theorem dX4_make_158 : decode cX4_make 158 = .ok (.iastore, 1) := by decide +kernel
theorem dX4_make_159 : decode cX4_make 159 = .ok (.aload_n 0, 1) := by decide +kernel
theorem dX4_make_160 : decode cX4_make 160 = .ok (.getfield 27, 3) := by decide +kernel
theorem dX4_make_163 : decode cX4_make 163 = .ok (.ireturn, 1) := by decide +kernel
set_option maxRecDepth 20000 in
theorem ggX4_copy_X4_needRegister : GoodIn wsX4_copy wsX4_needRegister := goodIn_ca (goodIn_r _ [5, 6, 7] (by decide +kernel) (by decide +kernel)) (goodIn_sub (fun _ h => List.mem_cons_of_mem _ (List.mem_append_right _ h)) (by decide +kernel))
set_option maxRecDepth 20000 in
theorem gX4_copy_X4_needRegister : GoodIn wsX4_copy (va_wsS RX4 37 yX4_needRegister wsX4_needRegister) := goodIn_app (goodIn_of _ (by decide +kernel)) ggX4_copy_X4_needRegister
set_option maxRecDepth 20000 in
theorem ggX4_copy_X0_labelOf : GoodIn wsX4_copy wsX0_labelOf := goodIn_r _ [12, 13, 14, 15, 11, 16, 17, 35, 36, 37, 38, 39] (by decide +kernel) (by decide +kernel)
set_option maxRecDepth 20000 in
theorem gX4_copy_X0_labelOf : GoodIn wsX4_copy (wsV RX4 85 RX0 yX0_labelOf wsX0_labelOf) := goodIn_app (goodIn_of _ (by decide +kernel)) ggX4_copy_X0_labelOf
theorem dX4_copy_0 : decode cX4_copy 0 = .ok (.iload_n 1, 1) := by decide +kernel
theorem dX4_copy_1 : decode cX4_copy 1 = .ok (.invokestatic 37, 3) := by decide +kernel
theorem dX4_copy_4 : decode cX4_copy 4 = .ok (.iload_n 2, 1) := by decide +kernel
theorem dX4_copy_5 : decode cX4_copy 5 = .ok (.invokestatic 37, 3) := by decide +kernel
theorem dX4_copy_8 : decode cX4_copy 8 = .ok (.aload_n 0, 1) := by decide +kernel
theorem dX4_copy_9 : decode cX4_copy 9 = .ok (.getfield 12, 3) := by decide +kernel
theorem dX4_copy_12 : decode cX4_copy 12 = .ok (.getfield 71, 3) := by decide +kernel
theorem dX4_copy_15 : decode cX4_copy 15 = .ok (.iload_n 1, 1) := by decide +kernel
theorem dX4_copy_16 : decode cX4_copy 16 = .ok (.aload_n 0, 1) := by decide +kernel
theorem dX4_copy_17 : decode cX4_copy 17 = .ok (.getfield 12, 3) := by decide +kernel
theorem dX4_copy_20 : decode cX4_copy 20 = .ok (.getfield 71, 3) := by decide +kernel
theorem dX4_copy_23 : decode cX4_copy 23 = .ok (.iload_n 2, 1) := by decide +kernel
theorem dX4_copy_24 : decode cX4_copy 24 = .ok (.iaload, 1) := by decide +kernel
theorem dX4_copy_25 : decode cX4_copy 25 = .ok (.iastore, 1) := by decide +kernel
theorem dX4_copy_26 : decode cX4_copy 26 = .ok (.aload_n 0, 1) := by decide +kernel
theorem dX4_copy_27 : decode cX4_copy 27 = .ok (.getfield 12, 3) := by decide +kernel
theorem dX4_copy_30 : decode cX4_copy 30 = .ok (.getfield 75, 3) := by decide +kernel
theorem dX4_copy_33 : decode cX4_copy 33 = .ok (.aload_n 0, 1) := by decide +kernel
theorem dX4_copy_34 : decode cX4_copy 34 = .ok (.getfield 12, 3) := by decide +kernel
theorem dX4_copy_37 : decode cX4_copy 37 = .ok (.getfield 71, 3) := by decide +kernel
theorem dX4_copy_40 : decode cX4_copy 40 = .ok (.iload_n 1, 1) := by decide +kernel
theorem dX4_copy_41 : decode cX4_copy 41 = .ok (.iaload, 1) := by decide +kernel
theorem dX4_copy_42 : decode cX4_copy 42 = .ok (.invokevirtual 85, 3) := by decide +kernel
theorem dX4_copy_45 : decode cX4_copy 45 = .ok (.ireturn, 1) := by decide +kernel
set_option maxRecDepth 20000 in
theorem ggX4_drop_X4_needRegister : GoodIn wsX4_drop wsX4_needRegister := goodIn_ca (goodIn_r _ [5, 6, 7] (by decide +kernel) (by decide +kernel)) (goodIn_sub (fun _ h => List.mem_cons_of_mem _ (List.mem_append_right _ h)) (by decide +kernel))
set_option maxRecDepth 20000 in
theorem gX4_drop_X4_needRegister : GoodIn wsX4_drop (va_wsS RX4 37 yX4_needRegister wsX4_needRegister) := goodIn_app (goodIn_of _ (by decide +kernel)) ggX4_drop_X4_needRegister
set_option maxRecDepth 20000 in
theorem ggX4_drop_X0_labelOf : GoodIn wsX4_drop wsX0_labelOf := goodIn_r _ [12, 13, 14, 15, 11, 16, 17, 35, 36, 37, 38, 39] (by decide +kernel) (by decide +kernel)
set_option maxRecDepth 20000 in
theorem gX4_drop_X0_labelOf : GoodIn wsX4_drop (wsV RX4 85 RX0 yX0_labelOf wsX0_labelOf) := goodIn_app (goodIn_of _ (by decide +kernel)) ggX4_drop_X0_labelOf
theorem dX4_drop_0 : decode cX4_drop 0 = .ok (.iload_n 1, 1) := by decide +kernel
theorem dX4_drop_1 : decode cX4_drop 1 = .ok (.invokestatic 37, 3) := by decide +kernel
theorem dX4_drop_4 : decode cX4_drop 4 = .ok (.aload_n 0, 1) := by decide +kernel
theorem dX4_drop_5 : decode cX4_drop 5 = .ok (.getfield 12, 3) := by decide +kernel
theorem dX4_drop_8 : decode cX4_drop 8 = .ok (.getfield 75, 3) := by decide +kernel
theorem dX4_drop_11 : decode cX4_drop 11 = .ok (.aload_n 0, 1) := by decide +kernel
theorem dX4_drop_12 : decode cX4_drop 12 = .ok (.getfield 12, 3) := by decide +kernel
theorem dX4_drop_15 : decode cX4_drop 15 = .ok (.getfield 71, 3) := by decide +kernel
theorem dX4_drop_18 : decode cX4_drop 18 = .ok (.iload_n 1, 1) := by decide +kernel
theorem dX4_drop_19 : decode cX4_drop 19 = .ok (.iaload, 1) := by decide +kernel
theorem dX4_drop_20 : decode cX4_drop 20 = .ok (.invokevirtual 85, 3) := by decide +kernel
theorem dX4_drop_23 : decode cX4_drop 23 = .ok (.istore_n 2, 1) := by decide +kernel
theorem dX4_drop_24 : decode cX4_drop 24 = .ok (.aload_n 0, 1) := by decide +kernel
theorem dX4_drop_25 : decode cX4_drop 25 = .ok (.getfield 12, 3) := by decide +kernel
theorem dX4_drop_28 : decode cX4_drop 28 = .ok (.getfield 71, 3) := by decide +kernel
theorem dX4_drop_31 : decode cX4_drop 31 = .ok (.iload_n 1, 1) := by decide +kernel
theorem dX4_drop_32 : decode cX4_drop 32 = .ok (.iconst (-1), 1) := by decide +kernel
theorem dX4_drop_33 : decode cX4_drop 33 = .ok (.iastore, 1) := by decide +kernel
theorem dX4_drop_34 : decode cX4_drop 34 = .ok (.iload_n 2, 1) := by decide +kernel
theorem dX4_drop_35 : decode cX4_drop 35 = .ok (.ireturn, 1) := by decide +kernel
set_option maxRecDepth 20000 in
theorem ggX4_set_X4_needRegister : GoodIn wsX4_set wsX4_needRegister := goodIn_ca (goodIn_r _ [5, 6, 7] (by decide +kernel) (by decide +kernel)) (goodIn_sub (fun _ h => List.mem_cons_of_mem _ (List.mem_append_left _ (List.mem_append_left _ (List.mem_append_right _ h)))) (by decide +kernel))
set_option maxRecDepth 20000 in
theorem gX4_set_X4_needRegister : GoodIn wsX4_set (va_wsS RX4 37 yX4_needRegister wsX4_needRegister) := goodIn_app (goodIn_of _ (by decide +kernel)) ggX4_set_X4_needRegister
set_option maxRecDepth 20000 in
theorem ggX4_set_X4_placeOfReference : GoodIn wsX4_set wsX4_placeOfReference := goodIn_ca (goodIn_ca (goodIn_ca (goodIn_r _ [11, 12, 13, 1, 14, 15, 16, 4, 17, 18, 19, 2, 3, 5, 6, 7, 20, 21, 22, 23, 24, 25, 26, 27, 28, 29, 39, 40, 41, 42, 43, 44, 45, 46, 47, 48, 49, 50, 51, 52, 53, 54, 55, 56, 57, 58, 59, 60] (by decide +kernel) (by decide +kernel)) (goodIn_sub (fun _ h => List.mem_cons_of_mem _ (List.mem_append_left _ (List.mem_append_right _ h))) (by decide +kernel))) (goodIn_sub (fun _ h => List.mem_cons_of_mem _ (List.mem_append_right _ h)) (by decide +kernel))) (goodIn_sub (fun _ h => List.mem_cons_of_mem _ (List.mem_append_left _ (List.mem_append_left _ (List.mem_append_right _ h)))) (by decide +kernel))
set_option maxRecDepth 20000 in
theorem gX4_set_X4_placeOfReference : GoodIn wsX4_set (wsV RX4 89 RX4 yX4_placeOfReference wsX4_placeOfReference) := goodIn_app (goodIn_of _ (by decide +kernel)) ggX4_set_X4_placeOfReference
set_option maxRecDepth 20000 in
theorem ggX4_set_X0_at : GoodIn wsX4_set wsX0_at := goodIn_r _ [28, 29, 56, 57, 58, 59, 60] (by decide +kernel) (by decide +kernel)
set_option maxRecDepth 20000 in
theorem gX4_set_X0_at : GoodIn wsX4_set (wsV RX4 92 RX0 yX0_at wsX0_at) := goodIn_app (goodIn_of _ (by decide +kernel)) ggX4_set_X0_at
set_option maxRecDepth 20000 in
theorem ggX4_set_X0_labelOf : GoodIn wsX4_set wsX0_labelOf := goodIn_r _ [34, 25, 26, 27, 23, 28, 29, 56, 57, 58, 59, 60] (by decide +kernel) (by decide +kernel)
set_option maxRecDepth 20000 in
theorem gX4_set_X0_labelOf : GoodIn wsX4_set (wsV RX4 85 RX0 yX0_labelOf wsX0_labelOf) := goodIn_app (goodIn_of _ (by decide +kernel)) ggX4_set_X0_labelOf
set_option maxRecDepth 20000 in
theorem ggX4_set_X0_write : GoodIn wsX4_set wsX0_write := goodIn_r _ [38, 29, 56, 57, 58, 59, 60] (by decide +kernel) (by decide +kernel)
set_option maxRecDepth 20000 in
theorem gX4_set_X0_write : GoodIn wsX4_set (wsV RX4 95 RX0 yX0_write wsX0_write) := goodIn_app (goodIn_of _ (by decide +kernel)) ggX4_set_X0_write
theorem dX4_set_0 : decode cX4_set 0 = .ok (.iload_n 3, 1) := by decide +kernel
theorem dX4_set_1 : decode cX4_set 1 = .ok (.invokestatic 37, 3) := by decide +kernel
theorem dX4_set_4 : decode cX4_set 4 = .ok (.aload_n 0, 1) := by decide +kernel
theorem dX4_set_5 : decode cX4_set 5 = .ok (.iload_n 1, 1) := by decide +kernel
theorem dX4_set_6 : decode cX4_set 6 = .ok (.iload_n 2, 1) := by decide +kernel
theorem dX4_set_7 : decode cX4_set 7 = .ok (.invokevirtual 89, 3) := by decide +kernel
theorem dX4_set_10 : decode cX4_set 10 = .ok (.istore 4, 2) := by decide +kernel
theorem dX4_set_12 : decode cX4_set 12 = .ok (.aload_n 0, 1) := by decide +kernel
theorem dX4_set_13 : decode cX4_set 13 = .ok (.getfield 12, 3) := by decide +kernel
theorem dX4_set_16 : decode cX4_set 16 = .ok (.getfield 75, 3) := by decide +kernel
theorem dX4_set_19 : decode cX4_set 19 = .ok (.aload_n 0, 1) := by decide +kernel
theorem dX4_set_20 : decode cX4_set 20 = .ok (.getfield 12, 3) := by decide +kernel
theorem dX4_set_23 : decode cX4_set 23 = .ok (.getfield 75, 3) := by decide +kernel
theorem dX4_set_26 : decode cX4_set 26 = .ok (.iload 4, 2) := by decide +kernel
theorem dX4_set_28 : decode cX4_set 28 = .ok (.invokevirtual 92, 3) := by decide +kernel
theorem dX4_set_31 : decode cX4_set 31 = .ok (.invokevirtual 85, 3) := by decide +kernel
theorem dX4_set_34 : decode cX4_set 34 = .ok (.istore 5, 2) := by decide +kernel
theorem dX4_set_36 : decode cX4_set 36 = .ok (.aload_n 0, 1) := by decide +kernel
theorem dX4_set_37 : decode cX4_set 37 = .ok (.getfield 12, 3) := by decide +kernel
theorem dX4_set_40 : decode cX4_set 40 = .ok (.getfield 75, 3) := by decide +kernel
theorem dX4_set_43 : decode cX4_set 43 = .ok (.iload 4, 2) := by decide +kernel
theorem dX4_set_45 : decode cX4_set 45 = .ok (.aload_n 0, 1) := by decide +kernel
theorem dX4_set_46 : decode cX4_set 46 = .ok (.getfield 12, 3) := by decide +kernel
theorem dX4_set_49 : decode cX4_set 49 = .ok (.getfield 71, 3) := by decide +kernel
theorem dX4_set_52 : decode cX4_set 52 = .ok (.iload_n 3, 1) := by decide +kernel
theorem dX4_set_53 : decode cX4_set 53 = .ok (.iaload, 1) := by decide +kernel
theorem dX4_set_54 : decode cX4_set 54 = .ok (.invokevirtual 95, 3) := by decide +kernel
theorem dX4_set_57 : decode cX4_set 57 = .ok (.iload 5, 2) := by decide +kernel
theorem dX4_set_59 : decode cX4_set 59 = .ok (.ireturn, 1) := by decide +kernel
set_option maxRecDepth 20000 in
theorem ggX4_get_X4_needRegister : GoodIn wsX4_get wsX4_needRegister := goodIn_ca (goodIn_r _ [5, 6, 7] (by decide +kernel) (by decide +kernel)) (goodIn_sub (fun _ h => List.mem_cons_of_mem _ (List.mem_append_left _ (List.mem_append_left _ (List.mem_append_right _ h)))) (by decide +kernel))
set_option maxRecDepth 20000 in
theorem gX4_get_X4_needRegister : GoodIn wsX4_get (va_wsS RX4 37 yX4_needRegister wsX4_needRegister) := goodIn_app (goodIn_of _ (by decide +kernel)) ggX4_get_X4_needRegister
set_option maxRecDepth 20000 in
theorem ggX4_get_X4_placeOfReference : GoodIn wsX4_get wsX4_placeOfReference := goodIn_ca (goodIn_ca (goodIn_ca (goodIn_r _ [11, 12, 13, 1, 14, 15, 16, 4, 17, 18, 19, 2, 3, 5, 6, 7, 20, 21, 22, 23, 24, 25, 26, 27, 28, 29, 35, 36, 37, 38, 39, 40, 41, 42, 43, 44, 45, 46, 47, 48, 49, 50, 51, 52, 53, 54, 55, 56] (by decide +kernel) (by decide +kernel)) (goodIn_sub (fun _ h => List.mem_cons_of_mem _ (List.mem_append_left _ (List.mem_append_right _ h))) (by decide +kernel))) (goodIn_sub (fun _ h => List.mem_cons_of_mem _ (List.mem_append_right _ h)) (by decide +kernel))) (goodIn_sub (fun _ h => List.mem_cons_of_mem _ (List.mem_append_left _ (List.mem_append_left _ (List.mem_append_right _ h)))) (by decide +kernel))
set_option maxRecDepth 20000 in
theorem gX4_get_X4_placeOfReference : GoodIn wsX4_get (wsV RX4 89 RX4 yX4_placeOfReference wsX4_placeOfReference) := goodIn_app (goodIn_of _ (by decide +kernel)) ggX4_get_X4_placeOfReference
set_option maxRecDepth 20000 in
theorem ggX4_get_X0_at : GoodIn wsX4_get wsX0_at := goodIn_r _ [28, 29, 52, 53, 54, 55, 56] (by decide +kernel) (by decide +kernel)
set_option maxRecDepth 20000 in
theorem gX4_get_X0_at : GoodIn wsX4_get (wsV RX4 92 RX0 yX0_at wsX0_at) := goodIn_app (goodIn_of _ (by decide +kernel)) ggX4_get_X0_at
set_option maxRecDepth 20000 in
theorem ggX4_get_X0_labelOf : GoodIn wsX4_get wsX0_labelOf := goodIn_r _ [34, 25, 26, 27, 23, 28, 29, 52, 53, 54, 55, 56] (by decide +kernel) (by decide +kernel)
set_option maxRecDepth 20000 in
theorem gX4_get_X0_labelOf : GoodIn wsX4_get (wsV RX4 85 RX0 yX0_labelOf wsX0_labelOf) := goodIn_app (goodIn_of _ (by decide +kernel)) ggX4_get_X0_labelOf
theorem dX4_get_0 : decode cX4_get 0 = .ok (.iload_n 1, 1) := by decide +kernel
theorem dX4_get_1 : decode cX4_get 1 = .ok (.invokestatic 37, 3) := by decide +kernel
theorem dX4_get_4 : decode cX4_get 4 = .ok (.aload_n 0, 1) := by decide +kernel
theorem dX4_get_5 : decode cX4_get 5 = .ok (.iload_n 2, 1) := by decide +kernel
theorem dX4_get_6 : decode cX4_get 6 = .ok (.iload_n 3, 1) := by decide +kernel
theorem dX4_get_7 : decode cX4_get 7 = .ok (.invokevirtual 89, 3) := by decide +kernel
theorem dX4_get_10 : decode cX4_get 10 = .ok (.istore 4, 2) := by decide +kernel
theorem dX4_get_12 : decode cX4_get 12 = .ok (.aload_n 0, 1) := by decide +kernel
theorem dX4_get_13 : decode cX4_get 13 = .ok (.getfield 12, 3) := by decide +kernel
theorem dX4_get_16 : decode cX4_get 16 = .ok (.getfield 71, 3) := by decide +kernel
theorem dX4_get_19 : decode cX4_get 19 = .ok (.iload_n 1, 1) := by decide +kernel
theorem dX4_get_20 : decode cX4_get 20 = .ok (.aload_n 0, 1) := by decide +kernel
theorem dX4_get_21 : decode cX4_get 21 = .ok (.getfield 12, 3) := by decide +kernel
theorem dX4_get_24 : decode cX4_get 24 = .ok (.getfield 75, 3) := by decide +kernel
theorem dX4_get_27 : decode cX4_get 27 = .ok (.iload 4, 2) := by decide +kernel
theorem dX4_get_29 : decode cX4_get 29 = .ok (.invokevirtual 92, 3) := by decide +kernel
theorem dX4_get_32 : decode cX4_get 32 = .ok (.iastore, 1) := by decide +kernel
theorem dX4_get_33 : decode cX4_get 33 = .ok (.aload_n 0, 1) := by decide +kernel
theorem dX4_get_34 : decode cX4_get 34 = .ok (.getfield 12, 3) := by decide +kernel
theorem dX4_get_37 : decode cX4_get 37 = .ok (.getfield 75, 3) := by decide +kernel
theorem dX4_get_40 : decode cX4_get 40 = .ok (.aload_n 0, 1) := by decide +kernel
theorem dX4_get_41 : decode cX4_get 41 = .ok (.getfield 12, 3) := by decide +kernel
theorem dX4_get_44 : decode cX4_get 44 = .ok (.getfield 71, 3) := by decide +kernel
theorem dX4_get_47 : decode cX4_get 47 = .ok (.iload_n 1, 1) := by decide +kernel
theorem dX4_get_48 : decode cX4_get 48 = .ok (.iaload, 1) := by decide +kernel
theorem dX4_get_49 : decode cX4_get 49 = .ok (.invokevirtual 85, 3) := by decide +kernel
theorem dX4_get_52 : decode cX4_get 52 = .ok (.ireturn, 1) := by decide +kernel
set_option maxRecDepth 20000 in
theorem ggX4_put_X4_placeOfNumber : GoodIn wsX4_put wsX4_placeOfNumber := goodIn_ca (goodIn_ca (goodIn_ca (goodIn_r _ [6, 7, 8, 1, 9, 10, 11, 5, 12, 13, 14, 15, 16, 17, 18, 19, 20, 21, 22, 23, 24, 25, 26, 27, 28, 29, 30, 31, 32, 33, 39, 40, 41, 42, 43, 44, 45, 46, 47, 48, 49, 50, 51, 52, 53, 54, 55, 56, 57, 58, 59, 60] (by decide +kernel) (by decide +kernel)) (goodIn_sub (fun _ h => List.mem_cons_of_mem _ (List.mem_append_left _ (List.mem_append_left _ (List.mem_append_right _ h)))) (by decide +kernel))) (goodIn_sub (fun _ h => List.mem_cons_of_mem _ (List.mem_append_left _ (List.mem_append_right _ h))) (by decide +kernel))) (goodIn_sub (fun _ h => List.mem_cons_of_mem _ (List.mem_append_right _ h)) (by decide +kernel))
set_option maxRecDepth 20000 in
theorem gX4_put_X4_placeOfNumber : GoodIn wsX4_put (wsV RX4 99 RX4 yX4_placeOfNumber wsX4_placeOfNumber) := goodIn_app (goodIn_of _ (by decide +kernel)) ggX4_put_X4_placeOfNumber
set_option maxRecDepth 20000 in
theorem ggX4_put_X0_at : GoodIn wsX4_put wsX0_at := goodIn_r _ [28, 29, 56, 57, 58, 59, 60] (by decide +kernel) (by decide +kernel)
set_option maxRecDepth 20000 in
theorem gX4_put_X0_at : GoodIn wsX4_put (wsV RX4 92 RX0 yX0_at wsX0_at) := goodIn_app (goodIn_of _ (by decide +kernel)) ggX4_put_X0_at
set_option maxRecDepth 20000 in
theorem ggX4_put_X0_write : GoodIn wsX4_put wsX0_write := goodIn_r _ [38, 29, 56, 57, 58, 59, 60] (by decide +kernel) (by decide +kernel)
set_option maxRecDepth 20000 in
theorem gX4_put_X0_write : GoodIn wsX4_put (wsV RX4 95 RX0 yX0_write wsX0_write) := goodIn_app (goodIn_of _ (by decide +kernel)) ggX4_put_X0_write
theorem dX4_put_0 : decode cX4_put 0 = .ok (.aload_n 0, 1) := by decide +kernel
theorem dX4_put_1 : decode cX4_put 1 = .ok (.iload_n 1, 1) := by decide +kernel
theorem dX4_put_2 : decode cX4_put 2 = .ok (.iload_n 2, 1) := by decide +kernel
theorem dX4_put_3 : decode cX4_put 3 = .ok (.invokevirtual 99, 3) := by decide +kernel
theorem dX4_put_6 : decode cX4_put 6 = .ok (.istore 4, 2) := by decide +kernel
theorem dX4_put_8 : decode cX4_put 8 = .ok (.aload_n 0, 1) := by decide +kernel
theorem dX4_put_9 : decode cX4_put 9 = .ok (.getfield 12, 3) := by decide +kernel
theorem dX4_put_12 : decode cX4_put 12 = .ok (.getfield 75, 3) := by decide +kernel
theorem dX4_put_15 : decode cX4_put 15 = .ok (.iload 4, 2) := by decide +kernel
theorem dX4_put_17 : decode cX4_put 17 = .ok (.invokevirtual 92, 3) := by decide +kernel
theorem dX4_put_20 : decode cX4_put 20 = .ok (.istore 5, 2) := by decide +kernel
theorem dX4_put_22 : decode cX4_put 22 = .ok (.aload_n 0, 1) := by decide +kernel
theorem dX4_put_23 : decode cX4_put 23 = .ok (.getfield 12, 3) := by decide +kernel
theorem dX4_put_26 : decode cX4_put 26 = .ok (.getfield 75, 3) := by decide +kernel
theorem dX4_put_29 : decode cX4_put 29 = .ok (.iload 4, 2) := by decide +kernel
theorem dX4_put_31 : decode cX4_put 31 = .ok (.iload_n 3, 1) := by decide +kernel
theorem dX4_put_32 : decode cX4_put 32 = .ok (.invokevirtual 95, 3) := by decide +kernel
theorem dX4_put_35 : decode cX4_put 35 = .ok (.iload 5, 2) := by decide +kernel
theorem dX4_put_37 : decode cX4_put 37 = .ok (.ireturn, 1) := by decide +kernel
set_option maxRecDepth 20000 in
theorem ggX4_number_X4_placeOfNumber : GoodIn wsX4_number wsX4_placeOfNumber := goodIn_ca (goodIn_ca (goodIn_ca (goodIn_r _ [6, 7, 8, 1, 9, 10, 11, 5, 12, 13, 14, 15, 16, 17, 18, 19, 20, 21, 22, 23, 24, 25, 26, 27, 28, 29, 30, 31, 32, 33, 35, 36, 37, 38, 39, 40, 41, 42, 43, 44, 45, 46, 47, 48, 49, 50, 51, 52, 53, 54, 55, 56] (by decide +kernel) (by decide +kernel)) (goodIn_sub (fun _ h => List.mem_cons_of_mem _ (List.mem_append_left _ (List.mem_append_left _ (List.mem_append_right _ h)))) (by decide +kernel))) (goodIn_sub (fun _ h => List.mem_cons_of_mem _ (List.mem_append_left _ (List.mem_append_right _ h))) (by decide +kernel))) (goodIn_sub (fun _ h => List.mem_cons_of_mem _ (List.mem_append_right _ h)) (by decide +kernel))
set_option maxRecDepth 20000 in
theorem gX4_number_X4_placeOfNumber : GoodIn wsX4_number (wsV RX4 99 RX4 yX4_placeOfNumber wsX4_placeOfNumber) := goodIn_app (goodIn_of _ (by decide +kernel)) ggX4_number_X4_placeOfNumber
set_option maxRecDepth 20000 in
theorem ggX4_number_X0_at : GoodIn wsX4_number wsX0_at := goodIn_r _ [28, 29, 52, 53, 54, 55, 56] (by decide +kernel) (by decide +kernel)
set_option maxRecDepth 20000 in
theorem gX4_number_X0_at : GoodIn wsX4_number (wsV RX4 92 RX0 yX0_at wsX0_at) := goodIn_app (goodIn_of _ (by decide +kernel)) ggX4_number_X0_at
theorem dX4_number_0 : decode cX4_number 0 = .ok (.aload_n 0, 1) := by decide +kernel
theorem dX4_number_1 : decode cX4_number 1 = .ok (.getfield 12, 3) := by decide +kernel
theorem dX4_number_4 : decode cX4_number 4 = .ok (.getfield 75, 3) := by decide +kernel
theorem dX4_number_7 : decode cX4_number 7 = .ok (.aload_n 0, 1) := by decide +kernel
theorem dX4_number_8 : decode cX4_number 8 = .ok (.iload_n 1, 1) := by decide +kernel
theorem dX4_number_9 : decode cX4_number 9 = .ok (.iload_n 2, 1) := by decide +kernel
theorem dX4_number_10 : decode cX4_number 10 = .ok (.invokevirtual 99, 3) := by decide +kernel
theorem dX4_number_13 : decode cX4_number 13 = .ok (.invokevirtual 92, 3) := by decide +kernel
theorem dX4_number_16 : decode cX4_number 16 = .ok (.ireturn, 1) := by decide +kernel
set_option maxRecDepth 20000 in
theorem ggX4_step_X3_canStep : GoodIn wsX4_step wsX3_canStep := goodIn_r _ [6, 7, 8, 9, 10, 11, 12, 13, 204, 205, 206, 207, 208, 209, 210, 211, 212, 213, 214, 215, 216, 217, 218, 219, 220] (by decide +kernel) (by decide +kernel)
set_option maxRecDepth 20000 in
theorem gX4_step_X3_canStep : GoodIn wsX4_step (wsV RX4 59 RX3 yX3_canStep wsX3_canStep) := goodIn_app (goodIn_of _ (by decide +kernel)) ggX4_step_X3_canStep
set_option maxRecDepth 20000 in
theorem ggX4_step_X3_doStep : GoodIn wsX4_step wsX3_doStep := goodIn_r _ [17, 7, 18, 19, 20, 21, 22, 23, 24, 25, 11, 26, 27, 28, 29, 30, 13, 31, 32, 33, 34, 35, 36, 37, 38, 39, 5, 40, 41, 42, 43, 44, 45, 46, 47, 48, 49, 50, 51, 52, 53, 54, 55, 56, 57, 58, 59, 60, 61, 62, 63, 64, 65, 66, 67, 68, 69, 70, 71, 72, 73, 74, 75, 76, 77, 78, 79, 80, 81, 82, 83, 84, 85, 86, 87, 88, 89, 9, 10, 12, 90, 91, 92, 93, 94, 95, 96, 97, 98, 99, 100, 101, 102, 103, 104, 105, 106, 107, 108, 109, 110, 111, 112, 113, 114, 115, 116, 117, 118, 119, 120, 121, 122, 123, 124, 125, 126, 127, 128, 129, 8, 130, 131, 132, 133, 134, 135, 136, 137, 138, 139, 140, 141, 142, 143, 144, 145, 146, 147, 148, 149, 150, 151, 152, 153, 154, 155, 156, 157, 158, 159, 160, 161, 162, 163, 164, 165, 166, 167, 168, 169, 170, 171, 172, 173, 174, 175, 176, 177, 178, 179, 180, 181, 182, 183, 184, 185, 186, 187, 188, 189, 190, 191, 192, 193, 194, 195, 196, 197, 198, 199, 204, 205, 206, 207, 208, 209, 210, 211, 212, 213, 214, 215, 216, 217, 218, 219, 220, 221, 222, 223, 224, 225] (by decide +kernel) (by decide +kernel)
set_option maxRecDepth 20000 in
theorem gX4_step_X3_doStep : GoodIn wsX4_step (wsV RX4 63 RX3 yX3_doStep wsX3_doStep) := goodIn_app (goodIn_of _ (by decide +kernel)) ggX4_step_X3_doStep
theorem dX4_step_0 : decode cX4_step 0 = .ok (.aload_n 0, 1) := by decide +kernel
theorem dX4_step_1 : decode cX4_step 1 = .ok (.getfield 12, 3) := by decide +kernel
theorem dX4_step_4 : decode cX4_step 4 = .ok (.invokevirtual 59, 3) := by decide +kernel
theorem dX4_step_7 : decode cX4_step 7 = .ok (.ifCond .eq 13, 3) := by decide +kernel
theorem dX4_step_10 : decode cX4_step 10 = .ok (.aload_n 0, 1) := by decide +kernel
theorem dX4_step_11 : decode cX4_step 11 = .ok (.getfield 12, 3) := by decide +kernel
theorem dX4_step_14 : decode cX4_step 14 = .ok (.invokevirtual 63, 3) := by decide +kernel
theorem dX4_step_17 : decode cX4_step 17 = .ok (.goto 4, 3) := by decide +kernel
theorem dX4_step_20 : decode cX4_step 20 = .ok (.iconst (-1), 1) := by decide +kernel
theorem dX4_step_21 : decode cX4_step 21 = .ok (.ireturn, 1) := by decide +kernel
set_option maxRecDepth 20000 in
theorem ggX4_collect_X3_canStep : GoodIn wsX4_collect wsX3_canStep := goodIn_r _ [8, 9, 10, 11, 12, 13, 14, 15, 206, 207, 208, 209, 210, 211, 212, 213, 214, 215, 216, 217, 218, 219, 220, 221, 222] (by decide +kernel) (by decide +kernel)
set_option maxRecDepth 20000 in
theorem gX4_collect_X3_canStep : GoodIn wsX4_collect (wsV RX4 59 RX3 yX3_canStep wsX3_canStep) := goodIn_app (goodIn_of _ (by decide +kernel)) ggX4_collect_X3_canStep
set_option maxRecDepth 20000 in
theorem ggX4_collect_X3_doStep : GoodIn wsX4_collect wsX3_doStep := goodIn_r _ [19, 9, 20, 21, 22, 23, 24, 25, 26, 27, 13, 28, 29, 30, 31, 32, 15, 33, 34, 35, 36, 37, 38, 39, 40, 41, 7, 42, 43, 44, 45, 46, 47, 48, 49, 50, 51, 52, 53, 54, 55, 56, 57, 58, 59, 60, 61, 62, 63, 64, 65, 66, 67, 68, 69, 70, 71, 72, 73, 74, 75, 76, 77, 78, 79, 80, 81, 82, 83, 84, 85, 86, 87, 88, 89, 90, 91, 11, 12, 14, 92, 93, 94, 95, 96, 97, 98, 99, 100, 101, 102, 103, 104, 105, 106, 107, 108, 109, 110, 111, 112, 113, 114, 115, 116, 117, 118, 119, 120, 121, 122, 123, 124, 125, 126, 127, 128, 129, 130, 131, 10, 132, 133, 134, 135, 136, 137, 138, 139, 140, 141, 142, 143, 144, 145, 146, 147, 148, 149, 150, 151, 152, 153, 154, 155, 156, 157, 158, 159, 160, 161, 162, 163, 164, 165, 166, 167, 168, 169, 170, 171, 172, 173, 174, 175, 176, 177, 178, 179, 180, 181, 182, 183, 184, 185, 186, 187, 188, 189, 190, 191, 192, 193, 194, 195, 196, 197, 198, 199, 200, 201, 206, 207, 208, 209, 210, 211, 212, 213, 214, 215, 216, 217, 218, 219, 220, 221, 222, 223, 224, 225, 226, 227] (by decide +kernel) (by decide +kernel)
set_option maxRecDepth 20000 in
theorem gX4_collect_X3_doStep : GoodIn wsX4_collect (wsV RX4 63 RX3 yX3_doStep wsX3_doStep) := goodIn_app (goodIn_of _ (by decide +kernel)) ggX4_collect_X3_doStep
theorem dX4_collect_0 : decode cX4_collect 0 = .ok (.iload_n 1, 1) := by decide +kernel
theorem dX4_collect_1 : decode cX4_collect 1 = .ok (.ifCond .lt 9, 3) := by decide +kernel
theorem dX4_collect_4 : decode cX4_collect 4 = .ok (.iload_n 1, 1) := by decide +kernel
theorem dX4_collect_5 : decode cX4_collect 5 = .ok (.bipush 100, 2) := by decide +kernel
theorem dX4_collect_7 : decode cX4_collect 7 = .ok (.if_icmp .le 13, 3) := by decide +kernel
theorem dX4_collect_10 : decode cX4_collect 10 = .ok (.new 30, 3) := by decide +kernel
theorem dX4_collect_13 : decode cX4_collect 13 = .ok (.dup, 1) := by decide +kernel
theorem dX4_collect_14 : decode cX4_collect 14 = .ok (.ldc 102, 2) := by decide +kernel
theorem dX4_collect_16 : decode cX4_collect 16 = .ok (.invokespecial 34, 3) := by decide +kernel
theorem dX4_collect_19 : decode cX4_collect 19 = .ok (.athrow, 1) := by decide +kernel
theorem dX4_collect_20 : decode cX4_collect 20 = .ok (.iload_n 1, 1) := by decide +kernel
theorem dX4_collect_21 : decode cX4_collect 21 = .ok (.ifCond .ne 16, 3) := by decide +kernel
theorem dX4_collect_24 : decode cX4_collect 24 = .ok (.aload_n 0, 1) := by decide +kernel
theorem dX4_collect_25 : decode cX4_collect 25 = .ok (.getfield 12, 3) := by decide +kernel
theorem dX4_collect_28 : decode cX4_collect 28 = .ok (.getfield 47, 3) := by decide +kernel
theorem dX4_collect_31 : decode cX4_collect 31 = .ok (.getfield 51, 3) := by decide +kernel
theorem dX4_collect_34 : decode cX4_collect 34 = .ok (.goto 4, 3) := by decide +kernel
theorem dX4_collect_37 : decode cX4_collect 37 = .ok (.iload_n 1, 1) := by decide +kernel
theorem dX4_collect_38 : decode cX4_collect 38 = .ok (.istore_n 2, 1) := by decide +kernel
theorem dX4_collect_39 : decode cX4_collect 39 = .ok (.iconst 0, 1) := by decide +kernel
theorem dX4_collect_40 : decode cX4_collect 40 = .ok (.istore_n 3, 1) := by decide +kernel
theorem dX4_collect_41 : decode cX4_collect 41 = .ok (.iconst 0, 1) := by decide +kernel
theorem dX4_collect_42 : decode cX4_collect 42 = .ok (.istore 4, 2) := by decide +kernel
theorem dX4_collect_44 : decode cX4_collect 44 = .ok (.iload 4, 2) := by decide +kernel
theorem dX4_collect_46 : decode cX4_collect 46 = .ok (.iload_n 2, 1) := by decide +kernel
theorem dX4_collect_47 : decode cX4_collect 47 = .ok (.if_icmp .ge 29, 3) := by decide +kernel
theorem dX4_collect_50 : decode cX4_collect 50 = .ok (.aload_n 0, 1) := by decide +kernel
theorem dX4_collect_51 : decode cX4_collect 51 = .ok (.getfield 12, 3) := by decide +kernel
theorem dX4_collect_54 : decode cX4_collect 54 = .ok (.invokevirtual 59, 3) := by decide +kernel
theorem dX4_collect_57 : decode cX4_collect 57 = .ok (.ifCond .eq 19, 3) := by decide +kernel
theorem dX4_collect_60 : decode cX4_collect 60 = .ok (.iload_n 3, 1) := by decide +kernel
theorem dX4_collect_61 : decode cX4_collect 61 = .ok (.aload_n 0, 1) := by decide +kernel
theorem dX4_collect_62 : decode cX4_collect 62 = .ok (.getfield 12, 3) := by decide +kernel
theorem dX4_collect_65 : decode cX4_collect 65 = .ok (.invokevirtual 63, 3) := by decide +kernel
theorem dX4_collect_68 : decode cX4_collect 68 = .ok (.iadd, 1) := by decide +kernel
theorem dX4_collect_69 : decode cX4_collect 69 = .ok (.istore_n 3, 1) := by decide +kernel
theorem dX4_collect_70 : decode cX4_collect 70 = .ok (.iinc 4 1, 3) := by decide +kernel
theorem dX4_collect_73 : decode cX4_collect 73 = .ok (.goto (-29), 3) := by decide +kernel
theorem dX4_collect_76 : decode cX4_collect 76 = .ok (.iload_n 3, 1) := by decide +kernel
theorem dX4_collect_77 : decode cX4_collect 77 = .ok (.ireturn, 1) := by decide +kernel
set_option maxRecDepth 20000 in
theorem ggX4_thing_X4_needWhat : GoodIn wsX4_thing wsX4_needWhat := goodIn_ca (goodIn_r _ [5, 6, 7] (by decide +kernel) (by decide +kernel)) (goodIn_sub (fun _ h => List.mem_cons_of_mem _ (List.mem_append_left _ (List.mem_append_right _ h))) (by decide +kernel))
set_option maxRecDepth 20000 in
theorem gX4_thing_X4_needWhat : GoodIn wsX4_thing (va_wsS RX4 104 yX4_needWhat wsX4_needWhat) := goodIn_app (goodIn_of _ (by decide +kernel)) ggX4_thing_X4_needWhat
set_option maxRecDepth 20000 in
theorem ggX4_thing_X4_heldThing : GoodIn wsX4_thing wsX4_heldThing := goodIn_ca (goodIn_ca (goodIn_r _ [11, 12, 13, 1, 14, 15, 4, 16, 6, 7, 47, 48, 49, 50, 51, 52, 53, 54, 55, 56, 57, 58, 59, 60, 61, 62, 63] (by decide +kernel) (by decide +kernel)) (goodIn_sub (fun _ h => List.mem_cons_of_mem _ (List.mem_append_right _ h)) (by decide +kernel))) (goodIn_sub (fun _ h => List.mem_cons_of_mem _ (List.mem_append_left _ (List.mem_append_right _ h))) (by decide +kernel))
set_option maxRecDepth 20000 in
theorem gX4_thing_X4_heldThing : GoodIn wsX4_thing (wsV RX4 107 RX4 yX4_heldThing wsX4_heldThing) := goodIn_app (goodIn_of _ (by decide +kernel)) ggX4_thing_X4_heldThing
set_option maxRecDepth 20000 in
theorem ggX4_thing_X0_labelOf : GoodIn wsX4_thing wsX0_labelOf := goodIn_r _ [21, 22, 23, 24, 20, 25, 26, 64, 65, 66, 67, 68] (by decide +kernel) (by decide +kernel)
set_option maxRecDepth 20000 in
theorem gX4_thing_X0_labelOf : GoodIn wsX4_thing (wsV RX4 85 RX0 yX0_labelOf wsX0_labelOf) := goodIn_app (goodIn_of _ (by decide +kernel)) ggX4_thing_X0_labelOf
set_option maxRecDepth 20000 in
theorem ggX4_thing_X4_carOf : GoodIn wsX4_thing wsX4_carOf := goodIn_r _ [29, 30, 31, 4, 32] (by decide +kernel) (by decide +kernel)
set_option maxRecDepth 20000 in
theorem gX4_thing_X4_carOf : GoodIn wsX4_thing (va_wsS RX4 110 yX4_carOf wsX4_carOf) := goodIn_app (goodIn_of _ (by decide +kernel)) ggX4_thing_X4_carOf
set_option maxRecDepth 20000 in
theorem ggX4_thing_X1_trainOf : GoodIn wsX4_thing wsX1_trainOf := goodIn_r _ [37, 38, 69, 70, 71, 72] (by decide +kernel) (by decide +kernel)
set_option maxRecDepth 20000 in
theorem gX4_thing_X1_trainOf : GoodIn wsX4_thing (wsV RX4 113 RX1 yX1_trainOf wsX1_trainOf) := goodIn_app (goodIn_of _ (by decide +kernel)) ggX4_thing_X1_trainOf
set_option maxRecDepth 20000 in
theorem ggX4_thing_X0_references : GoodIn wsX4_thing wsX0_references := goodIn_r _ [42, 22, 23, 24, 20, 25, 26, 64, 65, 66, 67, 68] (by decide +kernel) (by decide +kernel)
set_option maxRecDepth 20000 in
theorem gX4_thing_X0_references : GoodIn wsX4_thing (wsV RX4 116 RX0 yX0_references wsX0_references) := goodIn_app (goodIn_of _ (by decide +kernel)) ggX4_thing_X0_references
set_option maxRecDepth 20000 in
theorem ggX4_thing_X0_numbers : GoodIn wsX4_thing wsX0_numbers := goodIn_r _ [46, 22, 23, 24, 20, 25, 26, 64, 65, 66, 67, 68] (by decide +kernel) (by decide +kernel)
set_option maxRecDepth 20000 in
theorem gX4_thing_X0_numbers : GoodIn wsX4_thing (wsV RX4 119 RX0 yX0_numbers wsX0_numbers) := goodIn_app (goodIn_of _ (by decide +kernel)) ggX4_thing_X0_numbers
theorem dX4_thing_0 : decode cX4_thing 0 = .ok (.iload_n 2, 1) := by decide +kernel
theorem dX4_thing_1 : decode cX4_thing 1 = .ok (.iconst 4, 1) := by decide +kernel
theorem dX4_thing_2 : decode cX4_thing 2 = .ok (.invokestatic 104, 3) := by decide +kernel
theorem dX4_thing_5 : decode cX4_thing 5 = .ok (.aload_n 0, 1) := by decide +kernel
theorem dX4_thing_6 : decode cX4_thing 6 = .ok (.iload_n 1, 1) := by decide +kernel
theorem dX4_thing_7 : decode cX4_thing 7 = .ok (.invokevirtual 107, 3) := by decide +kernel
theorem dX4_thing_10 : decode cX4_thing 10 = .ok (.istore_n 3, 1) := by decide +kernel
theorem dX4_thing_11 : decode cX4_thing 11 = .ok (.iload_n 2, 1) := by decide +kernel
theorem dX4_thing_12 : decode cX4_thing 12 = .ok (.tableswitch 73 0 3 #[32, 44, 46, 61], 32) := by decide +kernel
theorem dX4_thing_44 : decode cX4_thing 44 = .ok (.aload_n 0, 1) := by decide +kernel
theorem dX4_thing_45 : decode cX4_thing 45 = .ok (.getfield 12, 3) := by decide +kernel
theorem dX4_thing_48 : decode cX4_thing 48 = .ok (.getfield 75, 3) := by decide +kernel
theorem dX4_thing_51 : decode cX4_thing 51 = .ok (.iload_n 3, 1) := by decide +kernel
theorem dX4_thing_52 : decode cX4_thing 52 = .ok (.invokevirtual 85, 3) := by decide +kernel
theorem dX4_thing_55 : decode cX4_thing 55 = .ok (.ireturn, 1) := by decide +kernel
theorem dX4_thing_56 : decode cX4_thing 56 = .ok (.iload_n 3, 1) := by decide +kernel
theorem dX4_thing_57 : decode cX4_thing 57 = .ok (.ireturn, 1) := by decide +kernel
theorem dX4_thing_58 : decode cX4_thing 58 = .ok (.aload_n 0, 1) := by decide +kernel
theorem dX4_thing_59 : decode cX4_thing 59 = .ok (.getfield 12, 3) := by decide +kernel
theorem dX4_thing_62 : decode cX4_thing 62 = .ok (.getfield 47, 3) := by decide +kernel
theorem dX4_thing_65 : decode cX4_thing 65 = .ok (.iload_n 3, 1) := by decide +kernel
theorem dX4_thing_66 : decode cX4_thing 66 = .ok (.invokestatic 110, 3) := by decide +kernel
theorem dX4_thing_69 : decode cX4_thing 69 = .ok (.invokevirtual 113, 3) := by decide +kernel
theorem dX4_thing_72 : decode cX4_thing 72 = .ok (.ireturn, 1) := by decide +kernel
theorem dX4_thing_73 : decode cX4_thing 73 = .ok (.aload_n 0, 1) := by decide +kernel
theorem dX4_thing_74 : decode cX4_thing 74 = .ok (.getfield 12, 3) := by decide +kernel
theorem dX4_thing_77 : decode cX4_thing 77 = .ok (.getfield 75, 3) := by decide +kernel
theorem dX4_thing_80 : decode cX4_thing 80 = .ok (.iload_n 3, 1) := by decide +kernel
theorem dX4_thing_81 : decode cX4_thing 81 = .ok (.invokevirtual 116, 3) := by decide +kernel
theorem dX4_thing_84 : decode cX4_thing 84 = .ok (.ireturn, 1) := by decide +kernel
theorem dX4_thing_85 : decode cX4_thing 85 = .ok (.aload_n 0, 1) := by decide +kernel
theorem dX4_thing_86 : decode cX4_thing 86 = .ok (.getfield 12, 3) := by decide +kernel
theorem dX4_thing_89 : decode cX4_thing 89 = .ok (.getfield 75, 3) := by decide +kernel
theorem dX4_thing_92 : decode cX4_thing 92 = .ok (.iload_n 3, 1) := by decide +kernel
theorem dX4_thing_93 : decode cX4_thing 93 = .ok (.invokevirtual 119, 3) := by decide +kernel
theorem dX4_thing_96 : decode cX4_thing 96 = .ok (.ireturn, 1) := by decide +kernel
set_option maxRecDepth 20000 in
theorem ggX4_label_X4_placeOfReference : GoodIn wsX4_label wsX4_placeOfReference := goodIn_ca (goodIn_ca (goodIn_ca (goodIn_r _ [6, 7, 8, 1, 9, 10, 11, 5, 12, 13, 14, 15, 16, 17, 18, 19, 20, 21, 22, 23, 24, 25, 26, 27, 28, 29, 35, 36, 37, 38, 39, 40, 41, 42, 43, 44, 45, 46, 47, 48, 49, 50, 51, 52, 53, 54, 55, 56] (by decide +kernel) (by decide +kernel)) (goodIn_sub (fun _ h => List.mem_cons_of_mem _ (List.mem_append_left _ (List.mem_append_left _ (List.mem_append_right _ h)))) (by decide +kernel))) (goodIn_sub (fun _ h => List.mem_cons_of_mem _ (List.mem_append_left _ (List.mem_append_right _ h))) (by decide +kernel))) (goodIn_sub (fun _ h => List.mem_cons_of_mem _ (List.mem_append_right _ h)) (by decide +kernel))
set_option maxRecDepth 20000 in
theorem gX4_label_X4_placeOfReference : GoodIn wsX4_label (wsV RX4 89 RX4 yX4_placeOfReference wsX4_placeOfReference) := goodIn_app (goodIn_of _ (by decide +kernel)) ggX4_label_X4_placeOfReference
set_option maxRecDepth 20000 in
theorem ggX4_label_X0_at : GoodIn wsX4_label wsX0_at := goodIn_r _ [28, 29, 52, 53, 54, 55, 56] (by decide +kernel) (by decide +kernel)
set_option maxRecDepth 20000 in
theorem gX4_label_X0_at : GoodIn wsX4_label (wsV RX4 92 RX0 yX0_at wsX0_at) := goodIn_app (goodIn_of _ (by decide +kernel)) ggX4_label_X0_at
set_option maxRecDepth 20000 in
theorem ggX4_label_X0_labelOf : GoodIn wsX4_label wsX0_labelOf := goodIn_r _ [34, 25, 26, 27, 23, 28, 29, 52, 53, 54, 55, 56] (by decide +kernel) (by decide +kernel)
set_option maxRecDepth 20000 in
theorem gX4_label_X0_labelOf : GoodIn wsX4_label (wsV RX4 85 RX0 yX0_labelOf wsX0_labelOf) := goodIn_app (goodIn_of _ (by decide +kernel)) ggX4_label_X0_labelOf
theorem dX4_label_0 : decode cX4_label 0 = .ok (.aload_n 0, 1) := by decide +kernel
theorem dX4_label_1 : decode cX4_label 1 = .ok (.getfield 12, 3) := by decide +kernel
theorem dX4_label_4 : decode cX4_label 4 = .ok (.getfield 75, 3) := by decide +kernel
theorem dX4_label_7 : decode cX4_label 7 = .ok (.aload_n 0, 1) := by decide +kernel
theorem dX4_label_8 : decode cX4_label 8 = .ok (.getfield 12, 3) := by decide +kernel
theorem dX4_label_11 : decode cX4_label 11 = .ok (.getfield 75, 3) := by decide +kernel
theorem dX4_label_14 : decode cX4_label 14 = .ok (.aload_n 0, 1) := by decide +kernel
theorem dX4_label_15 : decode cX4_label 15 = .ok (.iload_n 1, 1) := by decide +kernel
theorem dX4_label_16 : decode cX4_label 16 = .ok (.iload_n 2, 1) := by decide +kernel
theorem dX4_label_17 : decode cX4_label 17 = .ok (.invokevirtual 89, 3) := by decide +kernel
theorem dX4_label_20 : decode cX4_label 20 = .ok (.invokevirtual 92, 3) := by decide +kernel
theorem dX4_label_23 : decode cX4_label 23 = .ok (.invokevirtual 85, 3) := by decide +kernel
theorem dX4_label_26 : decode cX4_label 26 = .ok (.ireturn, 1) := by decide +kernel
set_option maxRecDepth 20000 in
theorem ggX4_train_X4_needWhat : GoodIn wsX4_train wsX4_needWhat := goodIn_ca (goodIn_r _ [5, 6, 7] (by decide +kernel) (by decide +kernel)) (goodIn_sub (fun _ h => List.mem_cons_of_mem _ (List.mem_append_right _ h)) (by decide +kernel))
set_option maxRecDepth 20000 in
theorem gX4_train_X4_needWhat : GoodIn wsX4_train (va_wsS RX4 104 yX4_needWhat wsX4_needWhat) := goodIn_app (goodIn_of _ (by decide +kernel)) ggX4_train_X4_needWhat
set_option maxRecDepth 20000 in
theorem ggX4_train_X4_startOfTrain : GoodIn wsX4_train wsX4_startOfTrain := goodIn_ca (goodIn_r _ [11, 6, 7, 1, 12, 13, 14, 15, 16, 17, 18, 19, 20, 21, 22, 23, 24, 25, 26, 27, 50, 51, 52, 53, 54, 55, 56, 57, 58, 59, 60, 61, 62, 63, 64, 65, 66, 67, 68, 69, 70] (by decide +kernel) (by decide +kernel)) (goodIn_sub (fun _ h => List.mem_cons_of_mem _ (List.mem_append_right _ h)) (by decide +kernel))
set_option maxRecDepth 20000 in
theorem gX4_train_X4_startOfTrain : GoodIn wsX4_train (wsV RX4 122 RX4 yX4_startOfTrain wsX4_startOfTrain) := goodIn_app (goodIn_of _ (by decide +kernel)) ggX4_train_X4_startOfTrain
set_option maxRecDepth 20000 in
theorem ggX4_train_X1_carAt : GoodIn wsX4_train wsX1_carAt := goodIn_r _ [21, 17, 22, 67, 68, 69, 70] (by decide +kernel) (by decide +kernel)
set_option maxRecDepth 20000 in
theorem gX4_train_X1_carAt : GoodIn wsX4_train (wsV RX4 125 RX1 yX1_carAt wsX1_carAt) := goodIn_app (goodIn_of _ (by decide +kernel)) ggX4_train_X1_carAt
set_option maxRecDepth 20000 in
theorem ggX4_train_X1_trainOf : GoodIn wsX4_train wsX1_trainOf := goodIn_r _ [26, 27, 67, 68, 69, 70] (by decide +kernel) (by decide +kernel)
set_option maxRecDepth 20000 in
theorem gX4_train_X1_trainOf : GoodIn wsX4_train (wsV RX4 113 RX1 yX1_trainOf wsX1_trainOf) := goodIn_app (goodIn_of _ (by decide +kernel)) ggX4_train_X1_trainOf
set_option maxRecDepth 20000 in
theorem ggX4_train_X1_carsOf : GoodIn wsX4_train wsX1_carsOf := goodIn_r _ [33, 17, 22, 23, 24, 25, 15, 26, 27, 67, 68, 69, 70] (by decide +kernel) (by decide +kernel)
set_option maxRecDepth 20000 in
theorem gX4_train_X1_carsOf : GoodIn wsX4_train (wsV RX4 128 RX1 yX1_carsOf wsX1_carsOf) := goodIn_app (goodIn_of _ (by decide +kernel)) ggX4_train_X1_carsOf
set_option maxRecDepth 20000 in
theorem ggX4_train_X3_thingsIn : GoodIn wsX4_train wsX3_thingsIn := goodIn_r _ [38, 39, 40, 41, 19, 20, 15, 21, 17, 22, 42, 43, 44, 45, 46, 47, 48, 4, 49, 54, 55, 56, 57, 58, 59, 60, 61, 62, 63, 64, 65, 66, 67, 68, 69, 70, 71, 72, 73, 74, 75] (by decide +kernel) (by decide +kernel)
set_option maxRecDepth 20000 in
theorem gX4_train_X3_thingsIn : GoodIn wsX4_train (wsV RX4 131 RX3 yX3_thingsIn wsX3_thingsIn) := goodIn_app (goodIn_of _ (by decide +kernel)) ggX4_train_X3_thingsIn
theorem dX4_train_0 : decode cX4_train 0 = .ok (.iload_n 2, 1) := by decide +kernel
theorem dX4_train_1 : decode cX4_train 1 = .ok (.iconst 2, 1) := by decide +kernel
theorem dX4_train_2 : decode cX4_train 2 = .ok (.invokestatic 104, 3) := by decide +kernel
theorem dX4_train_5 : decode cX4_train 5 = .ok (.aload_n 0, 1) := by decide +kernel
theorem dX4_train_6 : decode cX4_train 6 = .ok (.iload_n 1, 1) := by decide +kernel
theorem dX4_train_7 : decode cX4_train 7 = .ok (.invokevirtual 122, 3) := by decide +kernel
theorem dX4_train_10 : decode cX4_train 10 = .ok (.istore_n 3, 1) := by decide +kernel
theorem dX4_train_11 : decode cX4_train 11 = .ok (.aload_n 0, 1) := by decide +kernel
theorem dX4_train_12 : decode cX4_train 12 = .ok (.getfield 12, 3) := by decide +kernel
theorem dX4_train_15 : decode cX4_train 15 = .ok (.getfield 47, 3) := by decide +kernel
theorem dX4_train_18 : decode cX4_train 18 = .ok (.aload_n 0, 1) := by decide +kernel
theorem dX4_train_19 : decode cX4_train 19 = .ok (.getfield 12, 3) := by decide +kernel
theorem dX4_train_22 : decode cX4_train 22 = .ok (.getfield 47, 3) := by decide +kernel
theorem dX4_train_25 : decode cX4_train 25 = .ok (.iload_n 3, 1) := by decide +kernel
theorem dX4_train_26 : decode cX4_train 26 = .ok (.invokevirtual 125, 3) := by decide +kernel
theorem dX4_train_29 : decode cX4_train 29 = .ok (.invokevirtual 113, 3) := by decide +kernel
theorem dX4_train_32 : decode cX4_train 32 = .ok (.istore 4, 2) := by decide +kernel
theorem dX4_train_34 : decode cX4_train 34 = .ok (.aload_n 0, 1) := by decide +kernel
theorem dX4_train_35 : decode cX4_train 35 = .ok (.getfield 12, 3) := by decide +kernel
theorem dX4_train_38 : decode cX4_train 38 = .ok (.getfield 47, 3) := by decide +kernel
theorem dX4_train_41 : decode cX4_train 41 = .ok (.iload 4, 2) := by decide +kernel
theorem dX4_train_43 : decode cX4_train 43 = .ok (.invokevirtual 128, 3) := by decide +kernel
theorem dX4_train_46 : decode cX4_train 46 = .ok (.istore 5, 2) := by decide +kernel
theorem dX4_train_48 : decode cX4_train 48 = .ok (.iload_n 2, 1) := by decide +kernel
theorem dX4_train_49 : decode cX4_train 49 = .ok (.lookupswitch 33 #[(0, 27), (1, 30)], 27) := by decide +kernel
theorem dX4_train_76 : decode cX4_train 76 = .ok (.iload 4, 2) := by decide +kernel
theorem dX4_train_78 : decode cX4_train 78 = .ok (.ireturn, 1) := by decide +kernel
theorem dX4_train_79 : decode cX4_train 79 = .ok (.iload 5, 2) := by decide +kernel
theorem dX4_train_81 : decode cX4_train 81 = .ok (.ireturn, 1) := by decide +kernel
theorem dX4_train_82 : decode cX4_train 82 = .ok (.aload_n 0, 1) := by decide +kernel
theorem dX4_train_83 : decode cX4_train 83 = .ok (.getfield 12, 3) := by decide +kernel
theorem dX4_train_86 : decode cX4_train 86 = .ok (.iload_n 3, 1) := by decide +kernel
theorem dX4_train_87 : decode cX4_train 87 = .ok (.iload 5, 2) := by decide +kernel
theorem dX4_train_89 : decode cX4_train 89 = .ok (.invokevirtual 131, 3) := by decide +kernel
theorem dX4_train_92 : decode cX4_train 92 = .ok (.ireturn, 1) := by decide +kernel
set_option maxRecDepth 20000 in
theorem ggX4_car_X4_startOfTrain : GoodIn wsX4_car wsX4_startOfTrain := goodIn_ca (goodIn_r _ [8, 1, 2, 3, 9, 10, 11, 12, 13, 14, 15, 16, 17, 18, 19, 20, 21, 22, 23, 24, 31, 32, 33, 34, 35, 36, 37, 38, 39, 40, 41, 42, 43, 44, 45, 46, 47, 48, 49, 50, 51] (by decide +kernel) (by decide +kernel)) (goodIn_sub (fun _ h => List.mem_cons_of_mem _ (List.mem_append_right _ h)) (by decide +kernel))
set_option maxRecDepth 20000 in
theorem gX4_car_X4_startOfTrain : GoodIn wsX4_car (wsV RX4 122 RX4 yX4_startOfTrain wsX4_startOfTrain) := goodIn_app (goodIn_of _ (by decide +kernel)) ggX4_car_X4_startOfTrain
set_option maxRecDepth 20000 in
theorem ggX4_car_X1_carAt : GoodIn wsX4_car wsX1_carAt := goodIn_r _ [18, 14, 19, 48, 49, 50, 51] (by decide +kernel) (by decide +kernel)
set_option maxRecDepth 20000 in
theorem gX4_car_X1_carAt : GoodIn wsX4_car (wsV RX4 125 RX1 yX1_carAt wsX1_carAt) := goodIn_app (goodIn_of _ (by decide +kernel)) ggX4_car_X1_carAt
set_option maxRecDepth 20000 in
theorem ggX4_car_X1_trainOf : GoodIn wsX4_car wsX1_trainOf := goodIn_r _ [23, 24, 48, 49, 50, 51] (by decide +kernel) (by decide +kernel)
set_option maxRecDepth 20000 in
theorem gX4_car_X1_trainOf : GoodIn wsX4_car (wsV RX4 113 RX1 yX1_trainOf wsX1_trainOf) := goodIn_app (goodIn_of _ (by decide +kernel)) ggX4_car_X1_trainOf
set_option maxRecDepth 20000 in
theorem ggX4_car_X1_carsOf : GoodIn wsX4_car wsX1_carsOf := goodIn_r _ [30, 14, 19, 20, 21, 22, 12, 23, 24, 48, 49, 50, 51] (by decide +kernel) (by decide +kernel)
set_option maxRecDepth 20000 in
theorem gX4_car_X1_carsOf : GoodIn wsX4_car (wsV RX4 128 RX1 yX1_carsOf wsX1_carsOf) := goodIn_app (goodIn_of _ (by decide +kernel)) ggX4_car_X1_carsOf
theorem dX4_car_0 : decode cX4_car 0 = .ok (.aload_n 0, 1) := by decide +kernel
theorem dX4_car_1 : decode cX4_car 1 = .ok (.iload_n 1, 1) := by decide +kernel
theorem dX4_car_2 : decode cX4_car 2 = .ok (.invokevirtual 122, 3) := by decide +kernel
theorem dX4_car_5 : decode cX4_car 5 = .ok (.istore_n 3, 1) := by decide +kernel
theorem dX4_car_6 : decode cX4_car 6 = .ok (.aload_n 0, 1) := by decide +kernel
theorem dX4_car_7 : decode cX4_car 7 = .ok (.getfield 12, 3) := by decide +kernel
theorem dX4_car_10 : decode cX4_car 10 = .ok (.getfield 47, 3) := by decide +kernel
theorem dX4_car_13 : decode cX4_car 13 = .ok (.aload_n 0, 1) := by decide +kernel
theorem dX4_car_14 : decode cX4_car 14 = .ok (.getfield 12, 3) := by decide +kernel
theorem dX4_car_17 : decode cX4_car 17 = .ok (.getfield 47, 3) := by decide +kernel
theorem dX4_car_20 : decode cX4_car 20 = .ok (.iload_n 3, 1) := by decide +kernel
theorem dX4_car_21 : decode cX4_car 21 = .ok (.invokevirtual 125, 3) := by decide +kernel
theorem dX4_car_24 : decode cX4_car 24 = .ok (.invokevirtual 113, 3) := by decide +kernel
theorem dX4_car_27 : decode cX4_car 27 = .ok (.istore 4, 2) := by decide +kernel
theorem dX4_car_29 : decode cX4_car 29 = .ok (.iload_n 2, 1) := by decide +kernel
theorem dX4_car_30 : decode cX4_car 30 = .ok (.ifCond .lt 19, 3) := by decide +kernel
theorem dX4_car_33 : decode cX4_car 33 = .ok (.iload_n 2, 1) := by decide +kernel
theorem dX4_car_34 : decode cX4_car 34 = .ok (.aload_n 0, 1) := by decide +kernel
theorem dX4_car_35 : decode cX4_car 35 = .ok (.getfield 12, 3) := by decide +kernel
theorem dX4_car_38 : decode cX4_car 38 = .ok (.getfield 47, 3) := by decide +kernel
theorem dX4_car_41 : decode cX4_car 41 = .ok (.iload 4, 2) := by decide +kernel
theorem dX4_car_43 : decode cX4_car 43 = .ok (.invokevirtual 128, 3) := by decide +kernel
theorem dX4_car_46 : decode cX4_car 46 = .ok (.if_icmp .lt 13, 3) := by decide +kernel
theorem dX4_car_49 : decode cX4_car 49 = .ok (.new 134, 3) := by decide +kernel
theorem dX4_car_52 : decode cX4_car 52 = .ok (.dup, 1) := by decide +kernel
theorem dX4_car_53 : decode cX4_car 53 = .ok (.ldc 136, 2) := by decide +kernel
theorem dX4_car_55 : decode cX4_car 55 = .ok (.invokespecial 138, 3) := by decide +kernel
theorem dX4_car_58 : decode cX4_car 58 = .ok (.athrow, 1) := by decide +kernel
theorem dX4_car_59 : decode cX4_car 59 = .ok (.aload_n 0, 1) := by decide +kernel
theorem dX4_car_60 : decode cX4_car 60 = .ok (.getfield 12, 3) := by decide +kernel
theorem dX4_car_63 : decode cX4_car 63 = .ok (.getfield 47, 3) := by decide +kernel
theorem dX4_car_66 : decode cX4_car 66 = .ok (.iload_n 3, 1) := by decide +kernel
theorem dX4_car_67 : decode cX4_car 67 = .ok (.iload_n 2, 1) := by decide +kernel
theorem dX4_car_68 : decode cX4_car 68 = .ok (.iadd, 1) := by decide +kernel
theorem dX4_car_69 : decode cX4_car 69 = .ok (.invokevirtual 125, 3) := by decide +kernel
theorem dX4_car_72 : decode cX4_car 72 = .ok (.ireturn, 1) := by decide +kernel
set_option maxRecDepth 20000 in
theorem ggX4_about_X4_needCar : GoodIn wsX4_about wsX4_needCar := goodIn_ca (goodIn_r _ [5, 6, 7, 8, 9, 4, 10] (by decide +kernel) (by decide +kernel)) (goodIn_sub (fun _ h => List.mem_cons_of_mem _ (List.mem_append_right _ h)) (by decide +kernel))
set_option maxRecDepth 20000 in
theorem gX4_about_X4_needCar : GoodIn wsX4_about (va_wsS RX4 139 yX4_needCar wsX4_needCar) := goodIn_app (goodIn_of _ (by decide +kernel)) ggX4_about_X4_needCar
set_option maxRecDepth 20000 in
theorem ggX4_about_X4_needWhat : GoodIn wsX4_about wsX4_needWhat := goodIn_ca (goodIn_r _ [13, 6, 7] (by decide +kernel) (by decide +kernel)) (goodIn_sub (fun _ h => List.mem_cons_of_mem _ (List.mem_append_right _ h)) (by decide +kernel))
set_option maxRecDepth 20000 in
theorem gX4_about_X4_needWhat : GoodIn wsX4_about (va_wsS RX4 104 yX4_needWhat wsX4_needWhat) := goodIn_app (goodIn_of _ (by decide +kernel)) ggX4_about_X4_needWhat
set_option maxRecDepth 20000 in
theorem ggX4_about_X1_trainOf : GoodIn wsX4_about wsX1_trainOf := goodIn_r _ [18, 19, 91, 92, 93, 94] (by decide +kernel) (by decide +kernel)
set_option maxRecDepth 20000 in
theorem gX4_about_X1_trainOf : GoodIn wsX4_about (wsV RX4 113 RX1 yX1_trainOf wsX1_trainOf) := goodIn_app (goodIn_of _ (by decide +kernel)) ggX4_about_X1_trainOf
set_option maxRecDepth 20000 in
theorem ggX4_about_X0_room : GoodIn wsX4_about wsX0_room := goodIn_r _ [24, 25, 95, 96, 97, 98, 99] (by decide +kernel) (by decide +kernel)
set_option maxRecDepth 20000 in
theorem gX4_about_X0_room : GoodIn wsX4_about (wsV RX4 142 RX0 yX0_room wsX0_room) := goodIn_app (goodIn_of _ (by decide +kernel)) ggX4_about_X0_room
set_option maxRecDepth 20000 in
theorem ggX4_about_X0_things : GoodIn wsX4_about wsX0_things := goodIn_r _ [29, 30, 9, 4, 10, 95, 96, 97, 98, 99] (by decide +kernel) (by decide +kernel)
set_option maxRecDepth 20000 in
theorem gX4_about_X0_things : GoodIn wsX4_about (wsV RX4 145 RX0 yX0_things wsX0_things) := goodIn_app (goodIn_of _ (by decide +kernel)) ggX4_about_X0_things
set_option maxRecDepth 20000 in
theorem ggX4_about_X3_countRemembered : GoodIn wsX4_about wsX3_countRemembered := goodIn_r _ [35, 36, 37, 38, 34, 39, 40, 41, 42, 43, 44, 17, 45, 46, 47, 48, 49, 50, 23, 51, 25, 52, 53, 54, 55, 56, 57, 58, 4, 59, 60, 61, 62, 78, 79, 80, 81, 82, 83, 84, 85, 86, 87, 88, 89, 90, 91, 92, 93, 94, 95, 96, 97, 98, 99] (by decide +kernel) (by decide +kernel)
set_option maxRecDepth 20000 in
theorem gX4_about_X3_countRemembered : GoodIn wsX4_about (wsV RX4 148 RX3 yX3_countRemembered wsX3_countRemembered) := goodIn_app (goodIn_of _ (by decide +kernel)) ggX4_about_X3_countRemembered
set_option maxRecDepth 20000 in
theorem ggX4_about_X0_lastLabel : GoodIn wsX4_about wsX0_lastLabel := goodIn_r _ [66, 67, 68, 27, 28, 23, 29, 30, 9, 4, 10, 69, 70, 71, 72, 73, 54, 55, 56, 57, 95, 96, 97, 98, 99] (by decide +kernel) (by decide +kernel)
set_option maxRecDepth 20000 in
theorem gX4_about_X0_lastLabel : GoodIn wsX4_about (wsV RX4 151 RX0 yX0_lastLabel wsX0_lastLabel) := goodIn_app (goodIn_of _ (by decide +kernel)) ggX4_about_X0_lastLabel
theorem dX4_about_0 : decode cX4_about 0 = .ok (.iload_n 1, 1) := by decide +kernel
theorem dX4_about_1 : decode cX4_about 1 = .ok (.invokestatic 139, 3) := by decide +kernel
theorem dX4_about_4 : decode cX4_about 4 = .ok (.iload_n 2, 1) := by decide +kernel
theorem dX4_about_5 : decode cX4_about 5 = .ok (.iconst 4, 1) := by decide +kernel
theorem dX4_about_6 : decode cX4_about 6 = .ok (.invokestatic 104, 3) := by decide +kernel
theorem dX4_about_9 : decode cX4_about 9 = .ok (.iload_n 2, 1) := by decide +kernel
theorem dX4_about_10 : decode cX4_about 10 = .ok (.tableswitch 75 0 3 #[30, 42, 54, 66], 30) := by decide +kernel
theorem dX4_about_40 : decode cX4_about 40 = .ok (.aload_n 0, 1) := by decide +kernel
theorem dX4_about_41 : decode cX4_about 41 = .ok (.getfield 12, 3) := by decide +kernel
theorem dX4_about_44 : decode cX4_about 44 = .ok (.getfield 47, 3) := by decide +kernel
theorem dX4_about_47 : decode cX4_about 47 = .ok (.iload_n 1, 1) := by decide +kernel
theorem dX4_about_48 : decode cX4_about 48 = .ok (.invokevirtual 113, 3) := by decide +kernel
theorem dX4_about_51 : decode cX4_about 51 = .ok (.ireturn, 1) := by decide +kernel
theorem dX4_about_52 : decode cX4_about 52 = .ok (.aload_n 0, 1) := by decide +kernel
theorem dX4_about_53 : decode cX4_about 53 = .ok (.getfield 12, 3) := by decide +kernel
theorem dX4_about_56 : decode cX4_about 56 = .ok (.getfield 75, 3) := by decide +kernel
theorem dX4_about_59 : decode cX4_about 59 = .ok (.iload_n 1, 1) := by decide +kernel
theorem dX4_about_60 : decode cX4_about 60 = .ok (.invokevirtual 142, 3) := by decide +kernel
theorem dX4_about_63 : decode cX4_about 63 = .ok (.ireturn, 1) := by decide +kernel
theorem dX4_about_64 : decode cX4_about 64 = .ok (.aload_n 0, 1) := by decide +kernel
theorem dX4_about_65 : decode cX4_about 65 = .ok (.getfield 12, 3) := by decide +kernel
theorem dX4_about_68 : decode cX4_about 68 = .ok (.getfield 75, 3) := by decide +kernel
theorem dX4_about_71 : decode cX4_about 71 = .ok (.iload_n 1, 1) := by decide +kernel
theorem dX4_about_72 : decode cX4_about 72 = .ok (.invokevirtual 145, 3) := by decide +kernel
theorem dX4_about_75 : decode cX4_about 75 = .ok (.ireturn, 1) := by decide +kernel
theorem dX4_about_76 : decode cX4_about 76 = .ok (.aload_n 0, 1) := by decide +kernel
theorem dX4_about_77 : decode cX4_about 77 = .ok (.getfield 12, 3) := by decide +kernel
theorem dX4_about_80 : decode cX4_about 80 = .ok (.iload_n 1, 1) := by decide +kernel
theorem dX4_about_81 : decode cX4_about 81 = .ok (.invokevirtual 148, 3) := by decide +kernel
theorem dX4_about_84 : decode cX4_about 84 = .ok (.ireturn, 1) := by decide +kernel
theorem dX4_about_85 : decode cX4_about 85 = .ok (.aload_n 0, 1) := by decide +kernel
theorem dX4_about_86 : decode cX4_about 86 = .ok (.getfield 12, 3) := by decide +kernel
theorem dX4_about_89 : decode cX4_about 89 = .ok (.getfield 75, 3) := by decide +kernel
theorem dX4_about_92 : decode cX4_about 92 = .ok (.iload_n 1, 1) := by decide +kernel
theorem dX4_about_93 : decode cX4_about 93 = .ok (.invokevirtual 151, 3) := by decide +kernel
theorem dX4_about_96 : decode cX4_about 96 = .ok (.ireturn, 1) := by decide +kernel
set_option maxRecDepth 20000 in
theorem ggX4_remembered_X4_needCar : GoodIn wsX4_remembered wsX4_needCar := goodIn_ca (goodIn_r _ [5, 6, 7, 8, 9, 4, 10] (by decide +kernel) (by decide +kernel)) (goodIn_sub (fun _ h => List.mem_cons_of_mem _ (List.mem_append_right _ h)) (by decide +kernel))
set_option maxRecDepth 20000 in
theorem gX4_remembered_X4_needCar : GoodIn wsX4_remembered (va_wsS RX4 139 yX4_needCar wsX4_needCar) := goodIn_app (goodIn_of _ (by decide +kernel)) ggX4_remembered_X4_needCar
set_option maxRecDepth 20000 in
theorem ggX4_remembered_X3_nextRemembered : GoodIn wsX4_remembered wsX3_nextRemembered := goodIn_r _ [15, 16, 17, 18, 19, 20, 21, 22, 23, 24, 25, 26, 27, 28, 29, 30, 31, 32, 33, 34, 35, 36, 37, 4, 38, 39, 40, 41, 46, 47, 48, 49, 50, 51, 52, 53, 54, 55, 56, 57, 58, 59, 60, 61, 62, 63, 64, 65, 66, 67] (by decide +kernel) (by decide +kernel)
set_option maxRecDepth 20000 in
theorem gX4_remembered_X3_nextRemembered : GoodIn wsX4_remembered (wsV RX4 154 RX3 yX3_nextRemembered wsX3_nextRemembered) := goodIn_app (goodIn_of _ (by decide +kernel)) ggX4_remembered_X3_nextRemembered
theorem dX4_remembered_0 : decode cX4_remembered 0 = .ok (.iload_n 1, 1) := by decide +kernel
theorem dX4_remembered_1 : decode cX4_remembered 1 = .ok (.invokestatic 139, 3) := by decide +kernel
theorem dX4_remembered_4 : decode cX4_remembered 4 = .ok (.iload_n 2, 1) := by decide +kernel
theorem dX4_remembered_5 : decode cX4_remembered 5 = .ok (.ifCond .lt 10, 3) := by decide +kernel
theorem dX4_remembered_8 : decode cX4_remembered 8 = .ok (.iload_n 2, 1) := by decide +kernel
theorem dX4_remembered_9 : decode cX4_remembered 9 = .ok (.sipush 1280, 3) := by decide +kernel
theorem dX4_remembered_12 : decode cX4_remembered 12 = .ok (.if_icmp .lt 5, 3) := by decide +kernel
theorem dX4_remembered_15 : decode cX4_remembered 15 = .ok (.iconst (-1), 1) := by decide +kernel
theorem dX4_remembered_16 : decode cX4_remembered 16 = .ok (.ireturn, 1) := by decide +kernel
theorem dX4_remembered_17 : decode cX4_remembered 17 = .ok (.aload_n 0, 1) := by decide +kernel
theorem dX4_remembered_18 : decode cX4_remembered 18 = .ok (.getfield 12, 3) := by decide +kernel
theorem dX4_remembered_21 : decode cX4_remembered 21 = .ok (.iload_n 1, 1) := by decide +kernel
theorem dX4_remembered_22 : decode cX4_remembered 22 = .ok (.iconst 0, 1) := by decide +kernel
theorem dX4_remembered_23 : decode cX4_remembered 23 = .ok (.invokevirtual 154, 3) := by decide +kernel
theorem dX4_remembered_26 : decode cX4_remembered 26 = .ok (.istore_n 3, 1) := by decide +kernel
theorem dX4_remembered_27 : decode cX4_remembered 27 = .ok (.iconst 0, 1) := by decide +kernel
theorem dX4_remembered_28 : decode cX4_remembered 28 = .ok (.istore 4, 2) := by decide +kernel
theorem dX4_remembered_30 : decode cX4_remembered 30 = .ok (.iload 4, 2) := by decide +kernel
theorem dX4_remembered_32 : decode cX4_remembered 32 = .ok (.iload_n 2, 1) := by decide +kernel
theorem dX4_remembered_33 : decode cX4_remembered 33 = .ok (.if_icmp .ge 28, 3) := by decide +kernel
theorem dX4_remembered_36 : decode cX4_remembered 36 = .ok (.iload_n 3, 1) := by decide +kernel
theorem dX4_remembered_37 : decode cX4_remembered 37 = .ok (.sipush 1280, 3) := by decide +kernel
theorem dX4_remembered_40 : decode cX4_remembered 40 = .ok (.if_icmp .ge 21, 3) := by decide +kernel
theorem dX4_remembered_43 : decode cX4_remembered 43 = .ok (.aload_n 0, 1) := by decide +kernel
theorem dX4_remembered_44 : decode cX4_remembered 44 = .ok (.getfield 12, 3) := by decide +kernel
theorem dX4_remembered_47 : decode cX4_remembered 47 = .ok (.iload_n 1, 1) := by decide +kernel
theorem dX4_remembered_48 : decode cX4_remembered 48 = .ok (.iload_n 3, 1) := by decide +kernel
theorem dX4_remembered_49 : decode cX4_remembered 49 = .ok (.iconst 1, 1) := by decide +kernel
theorem dX4_remembered_50 : decode cX4_remembered 50 = .ok (.iadd, 1) := by decide +kernel
theorem dX4_remembered_51 : decode cX4_remembered 51 = .ok (.invokevirtual 154, 3) := by decide +kernel
theorem dX4_remembered_54 : decode cX4_remembered 54 = .ok (.istore_n 3, 1) := by decide +kernel
theorem dX4_remembered_55 : decode cX4_remembered 55 = .ok (.iinc 4 1, 3) := by decide +kernel
theorem dX4_remembered_58 : decode cX4_remembered 58 = .ok (.goto (-28), 3) := by decide +kernel
theorem dX4_remembered_61 : decode cX4_remembered 61 = .ok (.iload_n 3, 1) := by decide +kernel
theorem dX4_remembered_62 : decode cX4_remembered 62 = .ok (.sipush 1280, 3) := by decide +kernel
theorem dX4_remembered_65 : decode cX4_remembered 65 = .ok (.if_icmp .ge 7, 3) := by decide +kernel
theorem dX4_remembered_68 : decode cX4_remembered 68 = .ok (.iload_n 3, 1) := by decide +kernel
theorem dX4_remembered_69 : decode cX4_remembered 69 = .ok (.goto 4, 3) := by decide +kernel
theorem dX4_remembered_72 : decode cX4_remembered 72 = .ok (.iconst (-1), 1) := by decide +kernel
theorem dX4_remembered_73 : decode cX4_remembered 73 = .ok (.ireturn, 1) := by decide +kernel
set_option maxRecDepth 20000 in
theorem ggX4_word_X4_isPlace : GoodIn wsX4_word wsX4_isPlace := goodIn_r _ [7] (by decide +kernel) (by decide +kernel)
set_option maxRecDepth 20000 in
theorem gX4_word_X4_isPlace : GoodIn wsX4_word (va_wsS RX4 157 yX4_isPlace wsX4_isPlace) := goodIn_app (goodIn_of _ (by decide +kernel)) ggX4_word_X4_isPlace
set_option maxRecDepth 20000 in
theorem ggX4_word_X0_at : GoodIn wsX4_word wsX0_at := goodIn_r _ [12, 13, 31, 32, 33, 34, 35] (by decide +kernel) (by decide +kernel)
set_option maxRecDepth 20000 in
theorem gX4_word_X0_at : GoodIn wsX4_word (wsV RX4 92 RX0 yX0_at wsX0_at) := goodIn_app (goodIn_of _ (by decide +kernel)) ggX4_word_X0_at
theorem dX4_word_0 : decode cX4_word 0 = .ok (.iload_n 1, 1) := by decide +kernel
theorem dX4_word_1 : decode cX4_word 1 = .ok (.invokestatic 157, 3) := by decide +kernel
theorem dX4_word_4 : decode cX4_word 4 = .ok (.ifCond .ne 13, 3) := by decide +kernel
theorem dX4_word_7 : decode cX4_word 7 = .ok (.new 134, 3) := by decide +kernel
theorem dX4_word_10 : decode cX4_word 10 = .ok (.dup, 1) := by decide +kernel
theorem dX4_word_11 : decode cX4_word 11 = .ok (.ldc 160, 2) := by decide +kernel
theorem dX4_word_13 : decode cX4_word 13 = .ok (.invokespecial 138, 3) := by decide +kernel
theorem dX4_word_16 : decode cX4_word 16 = .ok (.athrow, 1) := by decide +kernel
theorem dX4_word_17 : decode cX4_word 17 = .ok (.aload_n 0, 1) := by decide +kernel
theorem dX4_word_18 : decode cX4_word 18 = .ok (.getfield 12, 3) := by decide +kernel
theorem dX4_word_21 : decode cX4_word 21 = .ok (.getfield 75, 3) := by decide +kernel
theorem dX4_word_24 : decode cX4_word 24 = .ok (.iload_n 1, 1) := by decide +kernel
theorem dX4_word_25 : decode cX4_word 25 = .ok (.invokevirtual 92, 3) := by decide +kernel
theorem dX4_word_28 : decode cX4_word 28 = .ok (.ireturn, 1) := by decide +kernel
set_option maxRecDepth 20000 in
theorem ggX4_reached_X2_countFrom : GoodIn wsX4_reached wsX2_countFrom := goodIn_r _ [7, 8, 9, 10, 11, 12, 13, 6, 14, 15, 16, 17, 18, 19, 20, 21, 22, 23, 24, 25, 26, 27, 28, 29, 47, 48, 49, 50, 51, 52, 53, 54, 55] (by decide +kernel) (by decide +kernel)
set_option maxRecDepth 20000 in
theorem gX4_reached_X2_countFrom : GoodIn wsX4_reached (wsV RX4 162 RX2 yX2_countFrom wsX2_countFrom) := goodIn_app (goodIn_of _ (by decide +kernel)) ggX4_reached_X2_countFrom
theorem dX4_reached_0 : decode cX4_reached 0 = .ok (.aload_n 0, 1) := by decide +kernel
theorem dX4_reached_1 : decode cX4_reached 1 = .ok (.getfield 19, 3) := by decide +kernel
theorem dX4_reached_4 : decode cX4_reached 4 = .ok (.aload_n 0, 1) := by decide +kernel
theorem dX4_reached_5 : decode cX4_reached 5 = .ok (.getfield 12, 3) := by decide +kernel
theorem dX4_reached_8 : decode cX4_reached 8 = .ok (.getfield 71, 3) := by decide +kernel
theorem dX4_reached_11 : decode cX4_reached 11 = .ok (.aload_n 0, 1) := by decide +kernel
theorem dX4_reached_12 : decode cX4_reached 12 = .ok (.getfield 12, 3) := by decide +kernel
theorem dX4_reached_15 : decode cX4_reached 15 = .ok (.getfield 75, 3) := by decide +kernel
theorem dX4_reached_18 : decode cX4_reached 18 = .ok (.invokevirtual 162, 3) := by decide +kernel
theorem dX4_reached_21 : decode cX4_reached 21 = .ok (.ireturn, 1) := by decide +kernel
set_option maxRecDepth 20000 in
theorem ggX4_told_X4_needWhat : GoodIn wsX4_told wsX4_needWhat := goodIn_ca (goodIn_r _ [6, 7, 8] (by decide +kernel) (by decide +kernel)) (goodIn_sub (fun _ h => List.mem_cons_of_mem _ (List.mem_append_right _ h)) (by decide +kernel))
set_option maxRecDepth 20000 in
theorem gX4_told_X4_needWhat : GoodIn wsX4_told (va_wsS RX4 104 yX4_needWhat wsX4_needWhat) := goodIn_app (goodIn_of _ (by decide +kernel)) ggX4_told_X4_needWhat
set_option maxRecDepth 20000 in
theorem ggX4_told_X1_countTrains : GoodIn wsX4_told wsX1_countTrains := goodIn_r _ [13, 14, 15, 16, 17, 12, 18, 19, 20, 21, 22, 23, 24, 62, 63, 64, 65] (by decide +kernel) (by decide +kernel)
set_option maxRecDepth 20000 in
theorem gX4_told_X1_countTrains : GoodIn wsX4_told (wsV RX4 166 RX1 yX1_countTrains wsX1_countTrains) := goodIn_app (goodIn_of _ (by decide +kernel)) ggX4_told_X1_countTrains
set_option maxRecDepth 20000 in
theorem ggX4_told_X1_countFree : GoodIn wsX4_told wsX1_countFree := goodIn_r _ [28, 14, 62, 63, 64, 65] (by decide +kernel) (by decide +kernel)
set_option maxRecDepth 20000 in
theorem gX4_told_X1_countFree : GoodIn wsX4_told (wsV RX4 169 RX1 yX1_countFree wsX1_countFree) := goodIn_app (goodIn_of _ (by decide +kernel)) ggX4_told_X1_countFree
set_option maxRecDepth 20000 in
theorem ggX4_told_X3_thingsIn : GoodIn wsX4_told wsX3_thingsIn := goodIn_r _ [33, 34, 35, 36, 16, 17, 12, 18, 14, 19, 37, 38, 39, 40, 41, 42, 43, 5, 44, 49, 50, 51, 52, 53, 54, 55, 56, 57, 58, 59, 60, 61, 62, 63, 64, 65, 66, 67, 68, 69, 70] (by decide +kernel) (by decide +kernel)
set_option maxRecDepth 20000 in
theorem gX4_told_X3_thingsIn : GoodIn wsX4_told (wsV RX4 131 RX3 yX3_thingsIn wsX3_thingsIn) := goodIn_app (goodIn_of _ (by decide +kernel)) ggX4_told_X3_thingsIn
theorem dX4_told_0 : decode cX4_told 0 = .ok (.iload_n 1, 1) := by decide +kernel
theorem dX4_told_1 : decode cX4_told 1 = .ok (.bipush 9, 2) := by decide +kernel
theorem dX4_told_3 : decode cX4_told 3 = .ok (.invokestatic 104, 3) := by decide +kernel
theorem dX4_told_6 : decode cX4_told 6 = .ok (.iload_n 1, 1) := by decide +kernel
theorem dX4_told_7 : decode cX4_told 7 = .ok (.tableswitch 141 0 8 #[49, 60, 71, 90, 98, 106, 114, 122, 130], 49) := by decide +kernel
theorem dX4_told_56 : decode cX4_told 56 = .ok (.aload_n 0, 1) := by decide +kernel
theorem dX4_told_57 : decode cX4_told 57 = .ok (.getfield 12, 3) := by decide +kernel
theorem dX4_told_60 : decode cX4_told 60 = .ok (.getfield 47, 3) := by decide +kernel
theorem dX4_told_63 : decode cX4_told 63 = .ok (.invokevirtual 166, 3) := by decide +kernel
theorem dX4_told_66 : decode cX4_told 66 = .ok (.ireturn, 1) := by decide +kernel
theorem dX4_told_67 : decode cX4_told 67 = .ok (.aload_n 0, 1) := by decide +kernel
theorem dX4_told_68 : decode cX4_told 68 = .ok (.getfield 12, 3) := by decide +kernel
theorem dX4_told_71 : decode cX4_told 71 = .ok (.getfield 47, 3) := by decide +kernel
theorem dX4_told_74 : decode cX4_told 74 = .ok (.invokevirtual 169, 3) := by decide +kernel
theorem dX4_told_77 : decode cX4_told 77 = .ok (.ireturn, 1) := by decide +kernel
theorem dX4_told_78 : decode cX4_told 78 = .ok (.aload_n 0, 1) := by decide +kernel
theorem dX4_told_79 : decode cX4_told 79 = .ok (.getfield 12, 3) := by decide +kernel
theorem dX4_told_82 : decode cX4_told 82 = .ok (.iconst 0, 1) := by decide +kernel
theorem dX4_told_83 : decode cX4_told 83 = .ok (.aload_n 0, 1) := by decide +kernel
theorem dX4_told_84 : decode cX4_told 84 = .ok (.getfield 12, 3) := by decide +kernel
theorem dX4_told_87 : decode cX4_told 87 = .ok (.getfield 47, 3) := by decide +kernel
theorem dX4_told_90 : decode cX4_told 90 = .ok (.getfield 51, 3) := by decide +kernel
theorem dX4_told_93 : decode cX4_told 93 = .ok (.invokevirtual 131, 3) := by decide +kernel
theorem dX4_told_96 : decode cX4_told 96 = .ok (.ireturn, 1) := by decide +kernel
theorem dX4_told_97 : decode cX4_told 97 = .ok (.aload_n 0, 1) := by decide +kernel
theorem dX4_told_98 : decode cX4_told 98 = .ok (.getfield 12, 3) := by decide +kernel
theorem dX4_told_101 : decode cX4_told 101 = .ok (.getfield 172, 3) := by decide +kernel
theorem dX4_told_104 : decode cX4_told 104 = .ok (.ireturn, 1) := by decide +kernel
theorem dX4_told_105 : decode cX4_told 105 = .ok (.aload_n 0, 1) := by decide +kernel
theorem dX4_told_106 : decode cX4_told 106 = .ok (.getfield 12, 3) := by decide +kernel
theorem dX4_told_109 : decode cX4_told 109 = .ok (.getfield 175, 3) := by decide +kernel
theorem dX4_told_112 : decode cX4_told 112 = .ok (.ireturn, 1) := by decide +kernel
theorem dX4_told_113 : decode cX4_told 113 = .ok (.aload_n 0, 1) := by decide +kernel
theorem dX4_told_114 : decode cX4_told 114 = .ok (.getfield 12, 3) := by decide +kernel
theorem dX4_told_117 : decode cX4_told 117 = .ok (.getfield 178, 3) := by decide +kernel
theorem dX4_told_120 : decode cX4_told 120 = .ok (.ireturn, 1) := by decide +kernel
theorem dX4_told_121 : decode cX4_told 121 = .ok (.aload_n 0, 1) := by decide +kernel
theorem dX4_told_122 : decode cX4_told 122 = .ok (.getfield 12, 3) := by decide +kernel
theorem dX4_told_125 : decode cX4_told 125 = .ok (.getfield 181, 3) := by decide +kernel
theorem dX4_told_128 : decode cX4_told 128 = .ok (.ireturn, 1) := by decide +kernel
theorem dX4_told_129 : decode cX4_told 129 = .ok (.aload_n 0, 1) := by decide +kernel
theorem dX4_told_130 : decode cX4_told 130 = .ok (.getfield 12, 3) := by decide +kernel
theorem dX4_told_133 : decode cX4_told 133 = .ok (.getfield 184, 3) := by decide +kernel
theorem dX4_told_136 : decode cX4_told 136 = .ok (.ireturn, 1) := by decide +kernel
theorem dX4_told_137 : decode cX4_told 137 = .ok (.aload_n 0, 1) := by decide +kernel
theorem dX4_told_138 : decode cX4_told 138 = .ok (.getfield 12, 3) := by decide +kernel
theorem dX4_told_141 : decode cX4_told 141 = .ok (.getfield 47, 3) := by decide +kernel
theorem dX4_told_144 : decode cX4_told 144 = .ok (.getfield 187, 3) := by decide +kernel
theorem dX4_told_147 : decode cX4_told 147 = .ok (.ireturn, 1) := by decide +kernel
theorem dX4_told_148 : decode cX4_told 148 = .ok (.aload_n 0, 1) := by decide +kernel
theorem dX4_told_149 : decode cX4_told 149 = .ok (.getfield 27, 3) := by decide +kernel
theorem dX4_told_152 : decode cX4_told 152 = .ok (.ireturn, 1) := by decide +kernel
theorem dX4_needRegister_0 : decode cX4_needRegister 0 = .ok (.iload_n 0, 1) := by decide +kernel
theorem dX4_needRegister_1 : decode cX4_needRegister 1 = .ok (.ifCond .lt 9, 3) := by decide +kernel
theorem dX4_needRegister_4 : decode cX4_needRegister 4 = .ok (.iload_n 0, 1) := by decide +kernel
theorem dX4_needRegister_5 : decode cX4_needRegister 5 = .ok (.bipush 16, 2) := by decide +kernel
theorem dX4_needRegister_7 : decode cX4_needRegister 7 = .ok (.if_icmp .lt 13, 3) := by decide +kernel
theorem dX4_needRegister_10 : decode cX4_needRegister 10 = .ok (.new 134, 3) := by decide +kernel
theorem dX4_needRegister_13 : decode cX4_needRegister 13 = .ok (.dup, 1) := by decide +kernel
theorem dX4_needRegister_14 : decode cX4_needRegister 14 = .ok (.ldc 190, 2) := by decide +kernel
theorem dX4_needRegister_16 : decode cX4_needRegister 16 = .ok (.invokespecial 138, 3) := by decide +kernel
theorem dX4_needRegister_19 : decode cX4_needRegister 19 = .ok (.athrow, 1) := by decide +kernel
theorem dX4_needRegister_20 : decode cX4_needRegister 20 = .ok (.return_, 1) := by decide +kernel
set_option maxRecDepth 20000 in
theorem ggX4_needCar_X4_isCar : GoodIn wsX4_needCar wsX4_isCar := goodIn_r _ [6] (by decide +kernel) (by decide +kernel)
set_option maxRecDepth 20000 in
theorem gX4_needCar_X4_isCar : GoodIn wsX4_needCar (va_wsS RX4 192 yX4_isCar wsX4_isCar) := goodIn_app (goodIn_of _ (by decide +kernel)) ggX4_needCar_X4_isCar
theorem dX4_needCar_0 : decode cX4_needCar 0 = .ok (.iload_n 0, 1) := by decide +kernel
theorem dX4_needCar_1 : decode cX4_needCar 1 = .ok (.invokestatic 192, 3) := by decide +kernel
theorem dX4_needCar_4 : decode cX4_needCar 4 = .ok (.ifCond .ne 13, 3) := by decide +kernel
theorem dX4_needCar_7 : decode cX4_needCar 7 = .ok (.new 134, 3) := by decide +kernel
theorem dX4_needCar_10 : decode cX4_needCar 10 = .ok (.dup, 1) := by decide +kernel
theorem dX4_needCar_11 : decode cX4_needCar 11 = .ok (.ldc 195, 2) := by decide +kernel
theorem dX4_needCar_13 : decode cX4_needCar 13 = .ok (.invokespecial 138, 3) := by decide +kernel
theorem dX4_needCar_16 : decode cX4_needCar 16 = .ok (.athrow, 1) := by decide +kernel
theorem dX4_needCar_17 : decode cX4_needCar 17 = .ok (.return_, 1) := by decide +kernel
theorem dX4_needWhat_0 : decode cX4_needWhat 0 = .ok (.iload_n 0, 1) := by decide +kernel
theorem dX4_needWhat_1 : decode cX4_needWhat 1 = .ok (.ifCond .lt 8, 3) := by decide +kernel
theorem dX4_needWhat_4 : decode cX4_needWhat 4 = .ok (.iload_n 0, 1) := by decide +kernel
theorem dX4_needWhat_5 : decode cX4_needWhat 5 = .ok (.iload_n 1, 1) := by decide +kernel
theorem dX4_needWhat_6 : decode cX4_needWhat 6 = .ok (.if_icmp .le 13, 3) := by decide +kernel
theorem dX4_needWhat_9 : decode cX4_needWhat 9 = .ok (.new 134, 3) := by decide +kernel
theorem dX4_needWhat_12 : decode cX4_needWhat 12 = .ok (.dup, 1) := by decide +kernel
theorem dX4_needWhat_13 : decode cX4_needWhat 13 = .ok (.ldc 197, 2) := by decide +kernel
theorem dX4_needWhat_15 : decode cX4_needWhat 15 = .ok (.invokespecial 138, 3) := by decide +kernel
theorem dX4_needWhat_18 : decode cX4_needWhat 18 = .ok (.athrow, 1) := by decide +kernel
theorem dX4_needWhat_19 : decode cX4_needWhat 19 = .ok (.return_, 1) := by decide +kernel
set_option maxRecDepth 20000 in
theorem ggX4_heldThing_X4_needRegister : GoodIn wsX4_heldThing wsX4_needRegister := goodIn_ca (goodIn_r _ [7, 8, 9] (by decide +kernel) (by decide +kernel)) (goodIn_sub (fun _ h => List.mem_cons_of_mem _ (List.mem_append_right _ h)) (by decide +kernel))
set_option maxRecDepth 20000 in
theorem gX4_heldThing_X4_needRegister : GoodIn wsX4_heldThing (va_wsS RX4 37 yX4_needRegister wsX4_needRegister) := goodIn_app (goodIn_of _ (by decide +kernel)) ggX4_heldThing_X4_needRegister
theorem dX4_heldThing_0 : decode cX4_heldThing 0 = .ok (.iload_n 1, 1) := by decide +kernel
theorem dX4_heldThing_1 : decode cX4_heldThing 1 = .ok (.invokestatic 37, 3) := by decide +kernel
theorem dX4_heldThing_4 : decode cX4_heldThing 4 = .ok (.aload_n 0, 1) := by decide +kernel
theorem dX4_heldThing_5 : decode cX4_heldThing 5 = .ok (.getfield 12, 3) := by decide +kernel
theorem dX4_heldThing_8 : decode cX4_heldThing 8 = .ok (.getfield 71, 3) := by decide +kernel
theorem dX4_heldThing_11 : decode cX4_heldThing 11 = .ok (.iload_n 1, 1) := by decide +kernel
theorem dX4_heldThing_12 : decode cX4_heldThing 12 = .ok (.iaload, 1) := by decide +kernel
theorem dX4_heldThing_13 : decode cX4_heldThing 13 = .ok (.istore_n 2, 1) := by decide +kernel
theorem dX4_heldThing_14 : decode cX4_heldThing 14 = .ok (.iload_n 2, 1) := by decide +kernel
theorem dX4_heldThing_15 : decode cX4_heldThing 15 = .ok (.iconst (-1), 1) := by decide +kernel
theorem dX4_heldThing_16 : decode cX4_heldThing 16 = .ok (.if_icmp .ne 13, 3) := by decide +kernel
theorem dX4_heldThing_19 : decode cX4_heldThing 19 = .ok (.new 199, 3) := by decide +kernel
theorem dX4_heldThing_22 : decode cX4_heldThing 22 = .ok (.dup, 1) := by decide +kernel
theorem dX4_heldThing_23 : decode cX4_heldThing 23 = .ok (.ldc 201, 2) := by decide +kernel
theorem dX4_heldThing_25 : decode cX4_heldThing 25 = .ok (.invokespecial 203, 3) := by decide +kernel
theorem dX4_heldThing_28 : decode cX4_heldThing 28 = .ok (.athrow, 1) := by decide +kernel
theorem dX4_heldThing_29 : decode cX4_heldThing 29 = .ok (.iload_n 2, 1) := by decide +kernel
theorem dX4_heldThing_30 : decode cX4_heldThing 30 = .ok (.ireturn, 1) := by decide +kernel
set_option maxRecDepth 20000 in
theorem ggX4_placeOfReference_X4_heldThing : GoodIn wsX4_placeOfReference wsX4_heldThing := goodIn_ca (goodIn_ca (goodIn_r _ [8, 9, 10, 3, 11, 12, 7, 13, 14, 15, 26, 27, 28, 29, 30, 31, 32, 33, 34, 35, 36, 37, 38, 39, 40, 41, 42] (by decide +kernel) (by decide +kernel)) (goodIn_sub (fun _ h => List.mem_cons_of_mem _ (List.mem_append_left _ (List.mem_append_right _ h))) (by decide +kernel))) (goodIn_sub (fun _ h => List.mem_cons_of_mem _ (List.mem_append_right _ h)) (by decide +kernel))
set_option maxRecDepth 20000 in
theorem gX4_placeOfReference_X4_heldThing : GoodIn wsX4_placeOfReference (wsV RX4 107 RX4 yX4_heldThing wsX4_heldThing) := goodIn_app (goodIn_of _ (by decide +kernel)) ggX4_placeOfReference_X4_heldThing
set_option maxRecDepth 20000 in
theorem ggX4_placeOfReference_X0_references : GoodIn wsX4_placeOfReference wsX0_references := goodIn_r _ [20, 21, 22, 23, 19, 24, 25, 43, 44, 45, 46, 47] (by decide +kernel) (by decide +kernel)
set_option maxRecDepth 20000 in
theorem gX4_placeOfReference_X0_references : GoodIn wsX4_placeOfReference (wsV RX4 116 RX0 yX0_references wsX0_references) := goodIn_app (goodIn_of _ (by decide +kernel)) ggX4_placeOfReference_X0_references
theorem dX4_placeOfReference_0 : decode cX4_placeOfReference 0 = .ok (.aload_n 0, 1) := by decide +kernel
theorem dX4_placeOfReference_1 : decode cX4_placeOfReference 1 = .ok (.iload_n 1, 1) := by decide +kernel
theorem dX4_placeOfReference_2 : decode cX4_placeOfReference 2 = .ok (.invokevirtual 107, 3) := by decide +kernel
theorem dX4_placeOfReference_5 : decode cX4_placeOfReference 5 = .ok (.istore_n 3, 1) := by decide +kernel
theorem dX4_placeOfReference_6 : decode cX4_placeOfReference 6 = .ok (.iload_n 2, 1) := by decide +kernel
theorem dX4_placeOfReference_7 : decode cX4_placeOfReference 7 = .ok (.ifCond .lt 18, 3) := by decide +kernel
theorem dX4_placeOfReference_10 : decode cX4_placeOfReference 10 = .ok (.iload_n 2, 1) := by decide +kernel
theorem dX4_placeOfReference_11 : decode cX4_placeOfReference 11 = .ok (.aload_n 0, 1) := by decide +kernel
theorem dX4_placeOfReference_12 : decode cX4_placeOfReference 12 = .ok (.getfield 12, 3) := by decide +kernel
theorem dX4_placeOfReference_15 : decode cX4_placeOfReference 15 = .ok (.getfield 75, 3) := by decide +kernel
theorem dX4_placeOfReference_18 : decode cX4_placeOfReference 18 = .ok (.iload_n 3, 1) := by decide +kernel
theorem dX4_placeOfReference_19 : decode cX4_placeOfReference 19 = .ok (.invokevirtual 116, 3) := by decide +kernel
theorem dX4_placeOfReference_22 : decode cX4_placeOfReference 22 = .ok (.if_icmp .lt 13, 3) := by decide +kernel
theorem dX4_placeOfReference_25 : decode cX4_placeOfReference 25 = .ok (.new 30, 3) := by decide +kernel
theorem dX4_placeOfReference_28 : decode cX4_placeOfReference 28 = .ok (.dup, 1) := by decide +kernel
theorem dX4_placeOfReference_29 : decode cX4_placeOfReference 29 = .ok (.ldc 204, 2) := by decide +kernel
theorem dX4_placeOfReference_31 : decode cX4_placeOfReference 31 = .ok (.invokespecial 34, 3) := by decide +kernel
theorem dX4_placeOfReference_34 : decode cX4_placeOfReference 34 = .ok (.athrow, 1) := by decide +kernel
theorem dX4_placeOfReference_35 : decode cX4_placeOfReference 35 = .ok (.iload_n 3, 1) := by decide +kernel
theorem dX4_placeOfReference_36 : decode cX4_placeOfReference 36 = .ok (.iconst 2, 1) := by decide +kernel
theorem dX4_placeOfReference_37 : decode cX4_placeOfReference 37 = .ok (.iadd, 1) := by decide +kernel
theorem dX4_placeOfReference_38 : decode cX4_placeOfReference 38 = .ok (.iload_n 2, 1) := by decide +kernel
theorem dX4_placeOfReference_39 : decode cX4_placeOfReference 39 = .ok (.iadd, 1) := by decide +kernel
theorem dX4_placeOfReference_40 : decode cX4_placeOfReference 40 = .ok (.ireturn, 1) := by decide +kernel
set_option maxRecDepth 20000 in
theorem ggX4_placeOfNumber_X4_heldThing : GoodIn wsX4_placeOfNumber wsX4_heldThing := goodIn_ca (goodIn_ca (goodIn_r _ [8, 9, 10, 3, 11, 12, 7, 13, 14, 15, 30, 31, 32, 33, 34, 35, 36, 37, 38, 39, 40, 41, 42, 43, 44, 45, 46] (by decide +kernel) (by decide +kernel)) (goodIn_sub (fun _ h => List.mem_cons_of_mem _ (List.mem_append_left _ (List.mem_append_right _ h))) (by decide +kernel))) (goodIn_sub (fun _ h => List.mem_cons_of_mem _ (List.mem_append_right _ h)) (by decide +kernel))
set_option maxRecDepth 20000 in
theorem gX4_placeOfNumber_X4_heldThing : GoodIn wsX4_placeOfNumber (wsV RX4 107 RX4 yX4_heldThing wsX4_heldThing) := goodIn_app (goodIn_of _ (by decide +kernel)) ggX4_placeOfNumber_X4_heldThing
set_option maxRecDepth 20000 in
theorem ggX4_placeOfNumber_X0_numbers : GoodIn wsX4_placeOfNumber wsX0_numbers := goodIn_r _ [20, 21, 22, 23, 19, 24, 25, 47, 48, 49, 50, 51] (by decide +kernel) (by decide +kernel)
set_option maxRecDepth 20000 in
theorem gX4_placeOfNumber_X0_numbers : GoodIn wsX4_placeOfNumber (wsV RX4 119 RX0 yX0_numbers wsX0_numbers) := goodIn_app (goodIn_of _ (by decide +kernel)) ggX4_placeOfNumber_X0_numbers
set_option maxRecDepth 20000 in
theorem ggX4_placeOfNumber_X0_references : GoodIn wsX4_placeOfNumber wsX0_references := goodIn_r _ [29, 21, 22, 23, 19, 24, 25, 47, 48, 49, 50, 51] (by decide +kernel) (by decide +kernel)
set_option maxRecDepth 20000 in
theorem gX4_placeOfNumber_X0_references : GoodIn wsX4_placeOfNumber (wsV RX4 116 RX0 yX0_references wsX0_references) := goodIn_app (goodIn_of _ (by decide +kernel)) ggX4_placeOfNumber_X0_references
theorem dX4_placeOfNumber_0 : decode cX4_placeOfNumber 0 = .ok (.aload_n 0, 1) := by decide +kernel
theorem dX4_placeOfNumber_1 : decode cX4_placeOfNumber 1 = .ok (.iload_n 1, 1) := by decide +kernel
theorem dX4_placeOfNumber_2 : decode cX4_placeOfNumber 2 = .ok (.invokevirtual 107, 3) := by decide +kernel
theorem dX4_placeOfNumber_5 : decode cX4_placeOfNumber 5 = .ok (.istore_n 3, 1) := by decide +kernel
theorem dX4_placeOfNumber_6 : decode cX4_placeOfNumber 6 = .ok (.iload_n 2, 1) := by decide +kernel
theorem dX4_placeOfNumber_7 : decode cX4_placeOfNumber 7 = .ok (.ifCond .lt 18, 3) := by decide +kernel
theorem dX4_placeOfNumber_10 : decode cX4_placeOfNumber 10 = .ok (.iload_n 2, 1) := by decide +kernel
theorem dX4_placeOfNumber_11 : decode cX4_placeOfNumber 11 = .ok (.aload_n 0, 1) := by decide +kernel
theorem dX4_placeOfNumber_12 : decode cX4_placeOfNumber 12 = .ok (.getfield 12, 3) := by decide +kernel
theorem dX4_placeOfNumber_15 : decode cX4_placeOfNumber 15 = .ok (.getfield 75, 3) := by decide +kernel
theorem dX4_placeOfNumber_18 : decode cX4_placeOfNumber 18 = .ok (.iload_n 3, 1) := by decide +kernel
theorem dX4_placeOfNumber_19 : decode cX4_placeOfNumber 19 = .ok (.invokevirtual 119, 3) := by decide +kernel
theorem dX4_placeOfNumber_22 : decode cX4_placeOfNumber 22 = .ok (.if_icmp .lt 13, 3) := by decide +kernel
theorem dX4_placeOfNumber_25 : decode cX4_placeOfNumber 25 = .ok (.new 30, 3) := by decide +kernel
theorem dX4_placeOfNumber_28 : decode cX4_placeOfNumber 28 = .ok (.dup, 1) := by decide +kernel
theorem dX4_placeOfNumber_29 : decode cX4_placeOfNumber 29 = .ok (.ldc 206, 2) := by decide +kernel
theorem dX4_placeOfNumber_31 : decode cX4_placeOfNumber 31 = .ok (.invokespecial 34, 3) := by decide +kernel
theorem dX4_placeOfNumber_34 : decode cX4_placeOfNumber 34 = .ok (.athrow, 1) := by decide +kernel
theorem dX4_placeOfNumber_35 : decode cX4_placeOfNumber 35 = .ok (.iload_n 3, 1) := by decide +kernel
theorem dX4_placeOfNumber_36 : decode cX4_placeOfNumber 36 = .ok (.iconst 2, 1) := by decide +kernel
theorem dX4_placeOfNumber_37 : decode cX4_placeOfNumber 37 = .ok (.iadd, 1) := by decide +kernel
theorem dX4_placeOfNumber_38 : decode cX4_placeOfNumber 38 = .ok (.aload_n 0, 1) := by decide +kernel
theorem dX4_placeOfNumber_39 : decode cX4_placeOfNumber 39 = .ok (.getfield 12, 3) := by decide +kernel
theorem dX4_placeOfNumber_42 : decode cX4_placeOfNumber 42 = .ok (.getfield 75, 3) := by decide +kernel
theorem dX4_placeOfNumber_45 : decode cX4_placeOfNumber 45 = .ok (.iload_n 3, 1) := by decide +kernel
theorem dX4_placeOfNumber_46 : decode cX4_placeOfNumber 46 = .ok (.invokevirtual 116, 3) := by decide +kernel
theorem dX4_placeOfNumber_49 : decode cX4_placeOfNumber 49 = .ok (.iadd, 1) := by decide +kernel
theorem dX4_placeOfNumber_50 : decode cX4_placeOfNumber 50 = .ok (.iload_n 2, 1) := by decide +kernel
theorem dX4_placeOfNumber_51 : decode cX4_placeOfNumber 51 = .ok (.iadd, 1) := by decide +kernel
theorem dX4_placeOfNumber_52 : decode cX4_placeOfNumber 52 = .ok (.ireturn, 1) := by decide +kernel
set_option maxRecDepth 20000 in
theorem ggX4_startOfTrain_X1_startOf : GoodIn wsX4_startOfTrain wsX1_startOf := goodIn_r _ [8, 9, 10, 11, 12, 7, 13, 14, 15, 16, 17, 18, 19, 37, 38, 39, 40] (by decide +kernel) (by decide +kernel)
set_option maxRecDepth 20000 in
theorem gX4_startOfTrain_X1_startOf : GoodIn wsX4_startOfTrain (wsV RX4 208 RX1 yX1_startOf wsX1_startOf) := goodIn_app (goodIn_of _ (by decide +kernel)) ggX4_startOfTrain_X1_startOf
theorem dX4_startOfTrain_0 : decode cX4_startOfTrain 0 = .ok (.aload_n 0, 1) := by decide +kernel
theorem dX4_startOfTrain_1 : decode cX4_startOfTrain 1 = .ok (.getfield 12, 3) := by decide +kernel
theorem dX4_startOfTrain_4 : decode cX4_startOfTrain 4 = .ok (.getfield 47, 3) := by decide +kernel
theorem dX4_startOfTrain_7 : decode cX4_startOfTrain 7 = .ok (.iload_n 1, 1) := by decide +kernel
theorem dX4_startOfTrain_8 : decode cX4_startOfTrain 8 = .ok (.invokevirtual 208, 3) := by decide +kernel
theorem dX4_startOfTrain_11 : decode cX4_startOfTrain 11 = .ok (.istore_n 2, 1) := by decide +kernel
theorem dX4_startOfTrain_12 : decode cX4_startOfTrain 12 = .ok (.iload_n 2, 1) := by decide +kernel
theorem dX4_startOfTrain_13 : decode cX4_startOfTrain 13 = .ok (.iconst (-1), 1) := by decide +kernel
theorem dX4_startOfTrain_14 : decode cX4_startOfTrain 14 = .ok (.if_icmp .ne 13, 3) := by decide +kernel
theorem dX4_startOfTrain_17 : decode cX4_startOfTrain 17 = .ok (.new 134, 3) := by decide +kernel
theorem dX4_startOfTrain_20 : decode cX4_startOfTrain 20 = .ok (.dup, 1) := by decide +kernel
theorem dX4_startOfTrain_21 : decode cX4_startOfTrain 21 = .ok (.ldc 211, 2) := by decide +kernel
theorem dX4_startOfTrain_23 : decode cX4_startOfTrain 23 = .ok (.invokespecial 138, 3) := by decide +kernel
theorem dX4_startOfTrain_26 : decode cX4_startOfTrain 26 = .ok (.athrow, 1) := by decide +kernel
theorem dX4_startOfTrain_27 : decode cX4_startOfTrain 27 = .ok (.iload_n 2, 1) := by decide +kernel
theorem dX4_startOfTrain_28 : decode cX4_startOfTrain 28 = .ok (.ireturn, 1) := by decide +kernel
theorem dX4_isAmount_0 : decode cX4_isAmount 0 = .ok (.iload_n 0, 1) := by decide +kernel
theorem dX4_isAmount_1 : decode cX4_isAmount 1 = .ok (.ifCond .lt 13, 3) := by decide +kernel
theorem dX4_isAmount_4 : decode cX4_isAmount 4 = .ok (.iload_n 0, 1) := by decide +kernel
theorem dX4_isAmount_5 : decode cX4_isAmount 5 = .ok (.bipush 12, 2) := by decide +kernel
theorem dX4_isAmount_7 : decode cX4_isAmount 7 = .ok (.if_icmp .gt 7, 3) := by decide +kernel
theorem dX4_isAmount_10 : decode cX4_isAmount 10 = .ok (.iconst 1, 1) := by decide +kernel
theorem dX4_isAmount_11 : decode cX4_isAmount 11 = .ok (.goto 4, 3) := by decide +kernel
theorem dX4_isAmount_14 : decode cX4_isAmount 14 = .ok (.iconst 0, 1) := by decide +kernel
theorem dX4_isAmount_15 : decode cX4_isAmount 15 = .ok (.ireturn, 1) := by decide +kernel
theorem dX4_isCar_0 : decode cX4_isCar 0 = .ok (.iload_n 0, 1) := by decide +kernel
theorem dX4_isCar_1 : decode cX4_isCar 1 = .ok (.ifCond .lt 13, 3) := by decide +kernel
theorem dX4_isCar_4 : decode cX4_isCar 4 = .ok (.iload_n 0, 1) := by decide +kernel
theorem dX4_isCar_5 : decode cX4_isCar 5 = .ok (.bipush 40, 2) := by decide +kernel
theorem dX4_isCar_7 : decode cX4_isCar 7 = .ok (.if_icmp .ge 7, 3) := by decide +kernel
theorem dX4_isCar_10 : decode cX4_isCar 10 = .ok (.iconst 1, 1) := by decide +kernel
theorem dX4_isCar_11 : decode cX4_isCar 11 = .ok (.goto 4, 3) := by decide +kernel
theorem dX4_isCar_14 : decode cX4_isCar 14 = .ok (.iconst 0, 1) := by decide +kernel
theorem dX4_isCar_15 : decode cX4_isCar 15 = .ok (.ireturn, 1) := by decide +kernel
theorem dX4_isPlace_0 : decode cX4_isPlace 0 = .ok (.iload_n 0, 1) := by decide +kernel
theorem dX4_isPlace_1 : decode cX4_isPlace 1 = .ok (.ifCond .lt 14, 3) := by decide +kernel
theorem dX4_isPlace_4 : decode cX4_isPlace 4 = .ok (.iload_n 0, 1) := by decide +kernel
theorem dX4_isPlace_5 : decode cX4_isPlace 5 = .ok (.sipush 1280, 3) := by decide +kernel
theorem dX4_isPlace_8 : decode cX4_isPlace 8 = .ok (.if_icmp .ge 7, 3) := by decide +kernel
theorem dX4_isPlace_11 : decode cX4_isPlace 11 = .ok (.iconst 1, 1) := by decide +kernel
theorem dX4_isPlace_12 : decode cX4_isPlace 12 = .ok (.goto 4, 3) := by decide +kernel
theorem dX4_isPlace_15 : decode cX4_isPlace 15 = .ok (.iconst 0, 1) := by decide +kernel
theorem dX4_isPlace_16 : decode cX4_isPlace 16 = .ok (.ireturn, 1) := by decide +kernel
set_option maxRecDepth 20000 in
theorem ggX4_carOf_X4_isPlace : GoodIn wsX4_carOf wsX4_isPlace := goodIn_r _ [4] (by decide +kernel) (by decide +kernel)
set_option maxRecDepth 20000 in
theorem gX4_carOf_X4_isPlace : GoodIn wsX4_carOf (va_wsS RX4 157 yX4_isPlace wsX4_isPlace) := goodIn_app (goodIn_of _ (by decide +kernel)) ggX4_carOf_X4_isPlace
theorem dX4_carOf_0 : decode cX4_carOf 0 = .ok (.iload_n 0, 1) := by decide +kernel
theorem dX4_carOf_1 : decode cX4_carOf 1 = .ok (.invokestatic 157, 3) := by decide +kernel
theorem dX4_carOf_4 : decode cX4_carOf 4 = .ok (.ifCond .eq 10, 3) := by decide +kernel
theorem dX4_carOf_7 : decode cX4_carOf 7 = .ok (.iload_n 0, 1) := by decide +kernel
theorem dX4_carOf_8 : decode cX4_carOf 8 = .ok (.bipush 32, 2) := by decide +kernel
theorem dX4_carOf_10 : decode cX4_carOf 10 = .ok (.idiv, 1) := by decide +kernel
theorem dX4_carOf_11 : decode cX4_carOf 11 = .ok (.goto 4, 3) := by decide +kernel
theorem dX4_carOf_14 : decode cX4_carOf 14 = .ok (.iconst (-1), 1) := by decide +kernel
theorem dX4_carOf_15 : decode cX4_carOf 15 = .ok (.ireturn, 1) := by decide +kernel
