theorem dX5_init_0 : decode cX5_init 0 = .ok (.aload_n 0, 1) := by decide +kernel
theorem dX5_init_1 : decode cX5_init 1 = .ok (.invokespecial 1, 3) := by decide +kernel
theorem dX5_init_4 : decode cX5_init 4 = .ok (.aload_n 0, 1) := by decide +kernel
theorem dX5_init_5 : decode cX5_init 5 = .ok (.sipush 640, 3) := by decide +kernel
theorem dX5_init_8 : decode cX5_init 8 = .ok (.newarray .int, 2) := by decide +kernel
theorem dX5_init_10 : decode cX5_init 10 = .ok (.putfield 7, 3) := by decide +kernel
theorem dX5_init_13 : decode cX5_init 13 = .ok (.aload_n 0, 1) := by decide +kernel
theorem dX5_init_14 : decode cX5_init 14 = .ok (.sipush 640, 3) := by decide +kernel
theorem dX5_init_17 : decode cX5_init 17 = .ok (.newarray .int, 2) := by decide +kernel
theorem dX5_init_19 : decode cX5_init 19 = .ok (.putfield 13, 3) := by decide +kernel
theorem dX5_init_22 : decode cX5_init 22 = .ok (.aload_n 0, 1) := by decide +kernel
theorem dX5_init_23 : decode cX5_init 23 = .ok (.sipush 640, 3) := by decide +kernel
theorem dX5_init_26 : decode cX5_init 26 = .ok (.newarray .int, 2) := by decide +kernel
theorem dX5_init_28 : decode cX5_init 28 = .ok (.putfield 16, 3) := by decide +kernel
theorem dX5_init_31 : decode cX5_init 31 = .ok (.aload_n 0, 1) := by decide +kernel
theorem dX5_init_32 : decode cX5_init 32 = .ok (.sipush 640, 3) := by decide +kernel
theorem dX5_init_35 : decode cX5_init 35 = .ok (.newarray .int, 2) := by decide +kernel
theorem dX5_init_37 : decode cX5_init 37 = .ok (.putfield 19, 3) := by decide +kernel
theorem dX5_init_40 : decode cX5_init 40 = .ok (.aload_n 0, 1) := by decide +kernel
theorem dX5_init_41 : decode cX5_init 41 = .ok (.sipush 640, 3) := by decide +kernel
theorem dX5_init_44 : decode cX5_init 44 = .ok (.newarray .int, 2) := by decide +kernel
theorem dX5_init_46 : decode cX5_init 46 = .ok (.putfield 22, 3) := by decide +kernel
theorem dX5_init_49 : decode cX5_init 49 = .ok (.aload_n 0, 1) := by decide +kernel
theorem dX5_init_50 : decode cX5_init 50 = .ok (.sipush 7680, 3) := by decide +kernel
theorem dX5_init_53 : decode cX5_init 53 = .ok (.newarray .int, 2) := by decide +kernel
theorem dX5_init_55 : decode cX5_init 55 = .ok (.putfield 25, 3) := by decide +kernel
theorem dX5_init_58 : decode cX5_init 58 = .ok (.aload_n 0, 1) := by decide +kernel
theorem dX5_init_59 : decode cX5_init 59 = .ok (.sipush 7680, 3) := by decide +kernel
theorem dX5_init_62 : decode cX5_init 62 = .ok (.newarray .int, 2) := by decide +kernel
theorem dX5_init_64 : decode cX5_init 64 = .ok (.putfield 28, 3) := by decide +kernel
theorem dX5_init_67 : decode cX5_init 67 = .ok (.aload_n 0, 1) := by decide +kernel
theorem dX5_init_68 : decode cX5_init 68 = .ok (.bipush 40, 2) := by decide +kernel
theorem dX5_init_70 : decode cX5_init 70 = .ok (.newarray .int, 2) := by decide +kernel
theorem dX5_init_72 : decode cX5_init 72 = .ok (.putfield 31, 3) := by decide +kernel
theorem dX5_init_75 : decode cX5_init 75 = .ok (.aload_n 0, 1) := by decide +kernel
theorem dX5_init_76 : decode cX5_init 76 = .ok (.bipush 40, 2) := by decide +kernel
theorem dX5_init_78 : decode cX5_init 78 = .ok (.newarray .int, 2) := by decide +kernel
theorem dX5_init_80 : decode cX5_init 80 = .ok (.putfield 34, 3) := by decide +kernel
theorem dX5_init_83 : decode cX5_init 83 = .ok (.aload_n 0, 1) := by decide +kernel
theorem dX5_init_84 : decode cX5_init 84 = .ok (.sipush 640, 3) := by decide +kernel
theorem dX5_init_87 : decode cX5_init 87 = .ok (.newarray .int, 2) := by decide +kernel
theorem dX5_init_89 : decode cX5_init 89 = .ok (.putfield 37, 3) := by decide +kernel
theorem dX5_init_92 : decode cX5_init 92 = .ok (.aload_n 0, 1) := by decide +kernel
theorem dX5_init_93 : decode cX5_init 93 = .ok (.bipush 41, 2) := by decide +kernel
theorem dX5_init_95 : decode cX5_init 95 = .ok (.newarray .int, 2) := by decide +kernel
theorem dX5_init_97 : decode cX5_init 97 = .ok (.putfield 40, 3) := by decide +kernel
theorem dX5_init_100 : decode cX5_init 100 = .ok (.aload_n 0, 1) := by decide +kernel
theorem dX5_init_101 : decode cX5_init 101 = .ok (.bipush 41, 2) := by decide +kernel
theorem dX5_init_103 : decode cX5_init 103 = .ok (.newarray .int, 2) := by decide +kernel
theorem dX5_init_105 : decode cX5_init 105 = .ok (.putfield 43, 3) := by decide +kernel
theorem dX5_init_108 : decode cX5_init 108 = .ok (.aload_n 0, 1) := by decide +kernel
theorem dX5_init_109 : decode cX5_init 109 = .ok (.sipush 1640, 3) := by decide +kernel
theorem dX5_init_112 : decode cX5_init 112 = .ok (.newarray .int, 2) := by decide +kernel
theorem dX5_init_114 : decode cX5_init 114 = .ok (.putfield 46, 3) := by decide +kernel
theorem dX5_init_117 : decode cX5_init 117 = .ok (.aload_n 0, 1) := by decide +kernel
theorem dX5_init_118 : decode cX5_init 118 = .ok (.bipush 16, 2) := by decide +kernel
theorem dX5_init_120 : decode cX5_init 120 = .ok (.newarray .int, 2) := by decide +kernel
theorem dX5_init_122 : decode cX5_init 122 = .ok (.putfield 49, 3) := by decide +kernel
theorem dX5_init_125 : decode cX5_init 125 = .ok (.aload_n 0, 1) := by decide +kernel
theorem dX5_init_126 : decode cX5_init 126 = .ok (.iconst 4, 1) := by decide +kernel
theorem dX5_init_127 : decode cX5_init 127 = .ok (.putfield 52, 3) := by decide +kernel
theorem dX5_init_130 : decode cX5_init 130 = .ok (.aload_n 0, 1) := by decide +kernel
theorem dX5_init_131 : decode cX5_init 131 = .ok (.iconst (-1), 1) := by decide +kernel
theorem dX5_init_132 : decode cX5_init 132 = .ok (.putfield 56, 3) := by decide +kernel
theorem dX5_init_135 : decode cX5_init 135 = .ok (.aload_n 0, 1) := by decide +kernel
theorem dX5_init_136 : decode cX5_init 136 = .ok (.sipush 640, 3) := by decide +kernel
theorem dX5_init_139 : decode cX5_init 139 = .ok (.newarray .int, 2) := by decide +kernel
theorem dX5_init_141 : decode cX5_init 141 = .ok (.putfield 59, 3) := by decide +kernel
theorem dX5_init_144 : decode cX5_init 144 = .ok (.aload_n 0, 1) := by decide +kernel
theorem dX5_init_145 : decode cX5_init 145 = .ok (.sipush 1280, 3) := by decide +kernel
theorem dX5_init_148 : decode cX5_init 148 = .ok (.newarray .int, 2) := by decide +kernel
theorem dX5_init_150 : decode cX5_init 150 = .ok (.putfield 62, 3) := by decide +kernel
theorem dX5_init_153 : decode cX5_init 153 = .ok (.aload_n 0, 1) := by decide +kernel
theorem dX5_init_154 : decode cX5_init 154 = .ok (.sipush 1280, 3) := by decide +kernel
theorem dX5_init_157 : decode cX5_init 157 = .ok (.newarray .int, 2) := by decide +kernel
theorem dX5_init_159 : decode cX5_init 159 = .ok (.putfield 65, 3) := by decide +kernel
theorem dX5_init_162 : decode cX5_init 162 = .ok (.aload_n 0, 1) := by decide +kernel
theorem dX5_init_163 : decode cX5_init 163 = .ok (.sipush 1280, 3) := by decide +kernel
theorem dX5_init_166 : decode cX5_init 166 = .ok (.newarray .boolean, 2) := by decide +kernel
theorem dX5_init_168 : decode cX5_init 168 = .ok (.putfield 68, 3) := by decide +kernel
theorem dX5_init_171 : decode cX5_init 171 = .ok (.aload_n 0, 1) := by decide +kernel
theorem dX5_init_172 : decode cX5_init 172 = .ok (.sipush 640, 3) := by decide +kernel
theorem dX5_init_175 : decode cX5_init 175 = .ok (.newarray .boolean, 2) := by decide +kernel
theorem dX5_init_177 : decode cX5_init 177 = .ok (.putfield 72, 3) := by decide +kernel
theorem dX5_init_180 : decode cX5_init 180 = .ok (.iconst 0, 1) := by decide +kernel
theorem dX5_init_181 : decode cX5_init 181 = .ok (.istore_n 1, 1) := by decide +kernel
theorem dX5_init_182 : decode cX5_init 182 = .ok (.iload_n 1, 1) := by decide +kernel
theorem dX5_init_183 : decode cX5_init 183 = .ok (.bipush 16, 2) := by decide +kernel
theorem dX5_init_185 : decode cX5_init 185 = .ok (.if_icmp .ge 16, 3) := by decide +kernel
theorem dX5_init_188 : decode cX5_init 188 = .ok (.aload_n 0, 1) := by decide +kernel
theorem dX5_init_189 : decode cX5_init 189 = .ok (.getfield 49, 3) := by decide +kernel
theorem dX5_init_192 : decode cX5_init 192 = .ok (.iload_n 1, 1) := by decide +kernel
theorem dX5_init_193 : decode cX5_init 193 = .ok (.iconst (-1), 1) := by decide +kernel
theorem dX5_init_194 : decode cX5_init 194 = .ok (.iastore, 1) := by decide +kernel
theorem dX5_init_195 : decode cX5_init 195 = .ok (.iinc 1 1, 3) := by decide +kernel
theorem dX5_init_198 : decode cX5_init 198 = .ok (.goto (-16), 3) := by decide +kernel
theorem dX5_init_201 : decode cX5_init 201 = .ok (.return_, 1) := by decide +kernel
theorem dX5_thrown_0 : decode cX5_thrown 0 = .ok (.aload_n 0, 1) := by decide +kernel
theorem dX5_thrown_1 : decode cX5_thrown 1 = .ok (.getfield 75, 3) := by decide +kernel
theorem dX5_thrown_4 : decode cX5_thrown 4 = .ok (.ireturn, 1) := by decide +kernel
theorem dX5_trainOf_0 : decode cX5_trainOf 0 = .ok (.iconst 0, 1) := by decide +kernel
theorem dX5_trainOf_1 : decode cX5_trainOf 1 = .ok (.istore_n 2, 1) := by decide +kernel
theorem dX5_trainOf_2 : decode cX5_trainOf 2 = .ok (.iload_n 2, 1) := by decide +kernel
theorem dX5_trainOf_3 : decode cX5_trainOf 3 = .ok (.aload_n 0, 1) := by decide +kernel
theorem dX5_trainOf_4 : decode cX5_trainOf 4 = .ok (.getfield 78, 3) := by decide +kernel
theorem dX5_trainOf_7 : decode cX5_trainOf 7 = .ok (.if_icmp .ge 44, 3) := by decide +kernel
theorem dX5_trainOf_10 : decode cX5_trainOf 10 = .ok (.iconst 0, 1) := by decide +kernel
theorem dX5_trainOf_11 : decode cX5_trainOf 11 = .ok (.istore_n 3, 1) := by decide +kernel
theorem dX5_trainOf_12 : decode cX5_trainOf 12 = .ok (.iload_n 3, 1) := by decide +kernel
theorem dX5_trainOf_13 : decode cX5_trainOf 13 = .ok (.aload_n 0, 1) := by decide +kernel
theorem dX5_trainOf_14 : decode cX5_trainOf 14 = .ok (.getfield 43, 3) := by decide +kernel
theorem dX5_trainOf_17 : decode cX5_trainOf 17 = .ok (.iload_n 2, 1) := by decide +kernel
theorem dX5_trainOf_18 : decode cX5_trainOf 18 = .ok (.iaload, 1) := by decide +kernel
theorem dX5_trainOf_19 : decode cX5_trainOf 19 = .ok (.if_icmp .ge 26, 3) := by decide +kernel
theorem dX5_trainOf_22 : decode cX5_trainOf 22 = .ok (.aload_n 0, 1) := by decide +kernel
theorem dX5_trainOf_23 : decode cX5_trainOf 23 = .ok (.getfield 46, 3) := by decide +kernel
theorem dX5_trainOf_26 : decode cX5_trainOf 26 = .ok (.bipush 40, 2) := by decide +kernel
theorem dX5_trainOf_28 : decode cX5_trainOf 28 = .ok (.iload_n 2, 1) := by decide +kernel
theorem dX5_trainOf_29 : decode cX5_trainOf 29 = .ok (.imul, 1) := by decide +kernel
theorem dX5_trainOf_30 : decode cX5_trainOf 30 = .ok (.iload_n 3, 1) := by decide +kernel
theorem dX5_trainOf_31 : decode cX5_trainOf 31 = .ok (.iadd, 1) := by decide +kernel
theorem dX5_trainOf_32 : decode cX5_trainOf 32 = .ok (.iaload, 1) := by decide +kernel
theorem dX5_trainOf_33 : decode cX5_trainOf 33 = .ok (.iload_n 1, 1) := by decide +kernel
theorem dX5_trainOf_34 : decode cX5_trainOf 34 = .ok (.if_icmp .ne 5, 3) := by decide +kernel
theorem dX5_trainOf_37 : decode cX5_trainOf 37 = .ok (.iload_n 2, 1) := by decide +kernel
theorem dX5_trainOf_38 : decode cX5_trainOf 38 = .ok (.ireturn, 1) := by decide +kernel
theorem dX5_trainOf_39 : decode cX5_trainOf 39 = .ok (.iinc 3 1, 3) := by decide +kernel
theorem dX5_trainOf_42 : decode cX5_trainOf 42 = .ok (.goto (-30), 3) := by decide +kernel
theorem dX5_trainOf_45 : decode cX5_trainOf 45 = .ok (.iinc 2 1, 3) := by decide +kernel
theorem dX5_trainOf_48 : decode cX5_trainOf 48 = .ok (.goto (-46), 3) := by decide +kernel
theorem dX5_trainOf_51 : decode cX5_trainOf 51 = .ok (.iconst (-1), 1) := by decide +kernel
theorem dX5_trainOf_52 : decode cX5_trainOf 52 = .ok (.ireturn, 1) := by decide +kernel
set_option maxRecDepth 20000 in
theorem ggX5_freeCar_X5_trainOf : GoodIn wsX5_freeCar wsX5_trainOf := goodIn_r _ [5, 6, 7, 8, 9, 10, 11, 12, 13, 14, 15, 16, 17, 18, 19, 20, 21, 22, 23, 24, 25, 26, 27, 28, 29, 30, 31, 32, 33, 34, 35, 36, 37, 38, 39] (by decide +kernel) (by decide +kernel)
set_option maxRecDepth 20000 in
theorem gX5_freeCar_X5_trainOf : GoodIn wsX5_freeCar (wsV RX5 81 RX5 yX5_trainOf wsX5_trainOf) := goodIn_app (goodIn_of _ (by decide +kernel)) ggX5_freeCar_X5_trainOf
theorem dX5_freeCar_0 : decode cX5_freeCar 0 = .ok (.iconst 0, 1) := by decide +kernel
theorem dX5_freeCar_1 : decode cX5_freeCar 1 = .ok (.istore_n 1, 1) := by decide +kernel
theorem dX5_freeCar_2 : decode cX5_freeCar 2 = .ok (.iload_n 1, 1) := by decide +kernel
theorem dX5_freeCar_3 : decode cX5_freeCar 3 = .ok (.bipush 40, 2) := by decide +kernel
theorem dX5_freeCar_5 : decode cX5_freeCar 5 = .ok (.if_icmp .ge 19, 3) := by decide +kernel
theorem dX5_freeCar_8 : decode cX5_freeCar 8 = .ok (.aload_n 0, 1) := by decide +kernel
theorem dX5_freeCar_9 : decode cX5_freeCar 9 = .ok (.iload_n 1, 1) := by decide +kernel
theorem dX5_freeCar_10 : decode cX5_freeCar 10 = .ok (.invokevirtual 81, 3) := by decide +kernel
theorem dX5_freeCar_13 : decode cX5_freeCar 13 = .ok (.ifCond .ge 5, 3) := by decide +kernel
theorem dX5_freeCar_16 : decode cX5_freeCar 16 = .ok (.iload_n 1, 1) := by decide +kernel
theorem dX5_freeCar_17 : decode cX5_freeCar 17 = .ok (.ireturn, 1) := by decide +kernel
theorem dX5_freeCar_18 : decode cX5_freeCar 18 = .ok (.iinc 1 1, 3) := by decide +kernel
theorem dX5_freeCar_21 : decode cX5_freeCar 21 = .ok (.goto (-19), 3) := by decide +kernel
theorem dX5_freeCar_24 : decode cX5_freeCar 24 = .ok (.iconst (-1), 1) := by decide +kernel
theorem dX5_freeCar_25 : decode cX5_freeCar 25 = .ok (.ireturn, 1) := by decide +kernel
theorem dX5_freeCars_0 : decode cX5_freeCars 0 = .ok (.bipush 40, 2) := by decide +kernel
theorem dX5_freeCars_2 : decode cX5_freeCars 2 = .ok (.istore_n 1, 1) := by decide +kernel
theorem dX5_freeCars_3 : decode cX5_freeCars 3 = .ok (.iconst 0, 1) := by decide +kernel
theorem dX5_freeCars_4 : decode cX5_freeCars 4 = .ok (.istore_n 2, 1) := by decide +kernel
theorem dX5_freeCars_5 : decode cX5_freeCars 5 = .ok (.iload_n 2, 1) := by decide +kernel
theorem dX5_freeCars_6 : decode cX5_freeCars 6 = .ok (.aload_n 0, 1) := by decide +kernel
theorem dX5_freeCars_7 : decode cX5_freeCars 7 = .ok (.getfield 78, 3) := by decide +kernel
theorem dX5_freeCars_10 : decode cX5_freeCars 10 = .ok (.if_icmp .ge 18, 3) := by decide +kernel
theorem dX5_freeCars_13 : decode cX5_freeCars 13 = .ok (.iload_n 1, 1) := by decide +kernel
theorem dX5_freeCars_14 : decode cX5_freeCars 14 = .ok (.aload_n 0, 1) := by decide +kernel
theorem dX5_freeCars_15 : decode cX5_freeCars 15 = .ok (.getfield 43, 3) := by decide +kernel
theorem dX5_freeCars_18 : decode cX5_freeCars 18 = .ok (.iload_n 2, 1) := by decide +kernel
theorem dX5_freeCars_19 : decode cX5_freeCars 19 = .ok (.iaload, 1) := by decide +kernel
theorem dX5_freeCars_20 : decode cX5_freeCars 20 = .ok (.isub, 1) := by decide +kernel
theorem dX5_freeCars_21 : decode cX5_freeCars 21 = .ok (.istore_n 1, 1) := by decide +kernel
theorem dX5_freeCars_22 : decode cX5_freeCars 22 = .ok (.iinc 2 1, 3) := by decide +kernel
theorem dX5_freeCars_25 : decode cX5_freeCars 25 = .ok (.goto (-20), 3) := by decide +kernel
theorem dX5_freeCars_28 : decode cX5_freeCars 28 = .ok (.iload_n 1, 1) := by decide +kernel
theorem dX5_freeCars_29 : decode cX5_freeCars 29 = .ok (.ireturn, 1) := by decide +kernel
theorem dX5_lastCar_0 : decode cX5_lastCar 0 = .ok (.aload_n 0, 1) := by decide +kernel
theorem dX5_lastCar_1 : decode cX5_lastCar 1 = .ok (.getfield 46, 3) := by decide +kernel
theorem dX5_lastCar_4 : decode cX5_lastCar 4 = .ok (.bipush 40, 2) := by decide +kernel
theorem dX5_lastCar_6 : decode cX5_lastCar 6 = .ok (.iload_n 1, 1) := by decide +kernel
theorem dX5_lastCar_7 : decode cX5_lastCar 7 = .ok (.imul, 1) := by decide +kernel
theorem dX5_lastCar_8 : decode cX5_lastCar 8 = .ok (.aload_n 0, 1) := by decide +kernel
theorem dX5_lastCar_9 : decode cX5_lastCar 9 = .ok (.getfield 43, 3) := by decide +kernel
theorem dX5_lastCar_12 : decode cX5_lastCar 12 = .ok (.iload_n 1, 1) := by decide +kernel
theorem dX5_lastCar_13 : decode cX5_lastCar 13 = .ok (.iaload, 1) := by decide +kernel
theorem dX5_lastCar_14 : decode cX5_lastCar 14 = .ok (.iadd, 1) := by decide +kernel
theorem dX5_lastCar_15 : decode cX5_lastCar 15 = .ok (.iconst 1, 1) := by decide +kernel
theorem dX5_lastCar_16 : decode cX5_lastCar 16 = .ok (.isub, 1) := by decide +kernel
theorem dX5_lastCar_17 : decode cX5_lastCar 17 = .ok (.iaload, 1) := by decide +kernel
theorem dX5_lastCar_18 : decode cX5_lastCar 18 = .ok (.ireturn, 1) := by decide +kernel
theorem dX5_couple_0 : decode cX5_couple 0 = .ok (.aload_n 0, 1) := by decide +kernel
theorem dX5_couple_1 : decode cX5_couple 1 = .ok (.getfield 46, 3) := by decide +kernel
theorem dX5_couple_4 : decode cX5_couple 4 = .ok (.bipush 40, 2) := by decide +kernel
theorem dX5_couple_6 : decode cX5_couple 6 = .ok (.iload_n 1, 1) := by decide +kernel
theorem dX5_couple_7 : decode cX5_couple 7 = .ok (.imul, 1) := by decide +kernel
theorem dX5_couple_8 : decode cX5_couple 8 = .ok (.aload_n 0, 1) := by decide +kernel
theorem dX5_couple_9 : decode cX5_couple 9 = .ok (.getfield 43, 3) := by decide +kernel
theorem dX5_couple_12 : decode cX5_couple 12 = .ok (.iload_n 1, 1) := by decide +kernel
theorem dX5_couple_13 : decode cX5_couple 13 = .ok (.iaload, 1) := by decide +kernel
theorem dX5_couple_14 : decode cX5_couple 14 = .ok (.iadd, 1) := by decide +kernel
theorem dX5_couple_15 : decode cX5_couple 15 = .ok (.iload_n 2, 1) := by decide +kernel
theorem dX5_couple_16 : decode cX5_couple 16 = .ok (.iastore, 1) := by decide +kernel
theorem dX5_couple_17 : decode cX5_couple 17 = .ok (.aload_n 0, 1) := by decide +kernel
theorem dX5_couple_18 : decode cX5_couple 18 = .ok (.getfield 43, 3) := by decide +kernel
theorem dX5_couple_21 : decode cX5_couple 21 = .ok (.iload_n 1, 1) := by decide +kernel
theorem dX5_couple_22 : decode cX5_couple 22 = .ok (.dup2, 1) := by decide +kernel
theorem dX5_couple_23 : decode cX5_couple 23 = .ok (.iaload, 1) := by decide +kernel
theorem dX5_couple_24 : decode cX5_couple 24 = .ok (.iconst 1, 1) := by decide +kernel
theorem dX5_couple_25 : decode cX5_couple 25 = .ok (.iadd, 1) := by decide +kernel
theorem dX5_couple_26 : decode cX5_couple 26 = .ok (.iastore, 1) := by decide +kernel
theorem dX5_couple_27 : decode cX5_couple 27 = .ok (.aload_n 0, 1) := by decide +kernel
theorem dX5_couple_28 : decode cX5_couple 28 = .ok (.getfield 31, 3) := by decide +kernel
theorem dX5_couple_31 : decode cX5_couple 31 = .ok (.iload_n 2, 1) := by decide +kernel
theorem dX5_couple_32 : decode cX5_couple 32 = .ok (.iconst 0, 1) := by decide +kernel
theorem dX5_couple_33 : decode cX5_couple 33 = .ok (.iastore, 1) := by decide +kernel
theorem dX5_couple_34 : decode cX5_couple 34 = .ok (.aload_n 0, 1) := by decide +kernel
theorem dX5_couple_35 : decode cX5_couple 35 = .ok (.getfield 34, 3) := by decide +kernel
theorem dX5_couple_38 : decode cX5_couple 38 = .ok (.iload_n 2, 1) := by decide +kernel
theorem dX5_couple_39 : decode cX5_couple 39 = .ok (.iconst 0, 1) := by decide +kernel
theorem dX5_couple_40 : decode cX5_couple 40 = .ok (.iastore, 1) := by decide +kernel
theorem dX5_couple_41 : decode cX5_couple 41 = .ok (.return_, 1) := by decide +kernel
set_option maxRecDepth 20000 in
theorem ggX5_newTrain_X5_freeCar : GoodIn wsX5_newTrain wsX5_freeCar := goodIn_r _ [9, 10, 11, 12, 8, 13, 3, 4, 14, 21, 22, 23, 24, 25, 26, 27, 28, 29, 30, 31, 32, 33, 34, 35, 36, 37, 38, 39, 40, 41, 42, 43, 44, 45, 46, 47, 48, 49, 50, 51] (by decide +kernel) (by decide +kernel)
set_option maxRecDepth 20000 in
theorem gX5_newTrain_X5_freeCar : GoodIn wsX5_newTrain (wsV RX5 85 RX5 yX5_freeCar wsX5_freeCar) := goodIn_app (goodIn_of _ (by decide +kernel)) ggX5_newTrain_X5_freeCar
set_option maxRecDepth 20000 in
theorem ggX5_newTrain_X5_couple : GoodIn wsX5_newTrain wsX5_couple := goodIn_r _ [18, 14, 4, 19, 20, 21, 22, 23, 24, 25, 26, 27, 28, 29, 30, 31, 32, 33, 34, 35, 36, 37, 38, 39, 40, 41, 42, 43, 44, 45, 46, 47, 48, 49, 50, 51] (by decide +kernel) (by decide +kernel)
set_option maxRecDepth 20000 in
theorem gX5_newTrain_X5_couple : GoodIn wsX5_newTrain (wsV RX5 92 RX5 yX5_couple wsX5_couple) := goodIn_app (goodIn_of _ (by decide +kernel)) ggX5_newTrain_X5_couple
theorem dX5_newTrain_0 : decode cX5_newTrain 0 = .ok (.aload_n 0, 1) := by decide +kernel
theorem dX5_newTrain_1 : decode cX5_newTrain 1 = .ok (.invokevirtual 85, 3) := by decide +kernel
theorem dX5_newTrain_4 : decode cX5_newTrain 4 = .ok (.istore_n 1, 1) := by decide +kernel
theorem dX5_newTrain_5 : decode cX5_newTrain 5 = .ok (.aload_n 0, 1) := by decide +kernel
theorem dX5_newTrain_6 : decode cX5_newTrain 6 = .ok (.dup, 1) := by decide +kernel
theorem dX5_newTrain_7 : decode cX5_newTrain 7 = .ok (.getfield 89, 3) := by decide +kernel
theorem dX5_newTrain_10 : decode cX5_newTrain 10 = .ok (.iconst 1, 1) := by decide +kernel
theorem dX5_newTrain_11 : decode cX5_newTrain 11 = .ok (.iadd, 1) := by decide +kernel
theorem dX5_newTrain_12 : decode cX5_newTrain 12 = .ok (.putfield 89, 3) := by decide +kernel
theorem dX5_newTrain_15 : decode cX5_newTrain 15 = .ok (.aload_n 0, 1) := by decide +kernel
theorem dX5_newTrain_16 : decode cX5_newTrain 16 = .ok (.getfield 40, 3) := by decide +kernel
theorem dX5_newTrain_19 : decode cX5_newTrain 19 = .ok (.aload_n 0, 1) := by decide +kernel
theorem dX5_newTrain_20 : decode cX5_newTrain 20 = .ok (.getfield 78, 3) := by decide +kernel
theorem dX5_newTrain_23 : decode cX5_newTrain 23 = .ok (.aload_n 0, 1) := by decide +kernel
theorem dX5_newTrain_24 : decode cX5_newTrain 24 = .ok (.getfield 89, 3) := by decide +kernel
theorem dX5_newTrain_27 : decode cX5_newTrain 27 = .ok (.iastore, 1) := by decide +kernel
theorem dX5_newTrain_28 : decode cX5_newTrain 28 = .ok (.aload_n 0, 1) := by decide +kernel
theorem dX5_newTrain_29 : decode cX5_newTrain 29 = .ok (.getfield 43, 3) := by decide +kernel
theorem dX5_newTrain_32 : decode cX5_newTrain 32 = .ok (.aload_n 0, 1) := by decide +kernel
theorem dX5_newTrain_33 : decode cX5_newTrain 33 = .ok (.getfield 78, 3) := by decide +kernel
theorem dX5_newTrain_36 : decode cX5_newTrain 36 = .ok (.iconst 0, 1) := by decide +kernel
theorem dX5_newTrain_37 : decode cX5_newTrain 37 = .ok (.iastore, 1) := by decide +kernel
theorem dX5_newTrain_38 : decode cX5_newTrain 38 = .ok (.aload_n 0, 1) := by decide +kernel
theorem dX5_newTrain_39 : decode cX5_newTrain 39 = .ok (.dup, 1) := by decide +kernel
theorem dX5_newTrain_40 : decode cX5_newTrain 40 = .ok (.getfield 78, 3) := by decide +kernel
theorem dX5_newTrain_43 : decode cX5_newTrain 43 = .ok (.iconst 1, 1) := by decide +kernel
theorem dX5_newTrain_44 : decode cX5_newTrain 44 = .ok (.iadd, 1) := by decide +kernel
theorem dX5_newTrain_45 : decode cX5_newTrain 45 = .ok (.putfield 78, 3) := by decide +kernel
theorem dX5_newTrain_48 : decode cX5_newTrain 48 = .ok (.aload_n 0, 1) := by decide +kernel
theorem dX5_newTrain_49 : decode cX5_newTrain 49 = .ok (.aload_n 0, 1) := by decide +kernel
theorem dX5_newTrain_50 : decode cX5_newTrain 50 = .ok (.getfield 78, 3) := by decide +kernel
theorem dX5_newTrain_53 : decode cX5_newTrain 53 = .ok (.iconst 1, 1) := by decide +kernel
theorem dX5_newTrain_54 : decode cX5_newTrain 54 = .ok (.isub, 1) := by decide +kernel
theorem dX5_newTrain_55 : decode cX5_newTrain 55 = .ok (.iload_n 1, 1) := by decide +kernel
theorem dX5_newTrain_56 : decode cX5_newTrain 56 = .ok (.invokevirtual 92, 3) := by decide +kernel
theorem dX5_newTrain_59 : decode cX5_newTrain 59 = .ok (.return_, 1) := by decide +kernel
theorem dX5_removeTrain_0 : decode cX5_removeTrain 0 = .ok (.aload_n 0, 1) := by decide +kernel
theorem dX5_removeTrain_1 : decode cX5_removeTrain 1 = .ok (.dup, 1) := by decide +kernel
theorem dX5_removeTrain_2 : decode cX5_removeTrain 2 = .ok (.getfield 78, 3) := by decide +kernel
theorem dX5_removeTrain_5 : decode cX5_removeTrain 5 = .ok (.iconst 1, 1) := by decide +kernel
theorem dX5_removeTrain_6 : decode cX5_removeTrain 6 = .ok (.isub, 1) := by decide +kernel
theorem dX5_removeTrain_7 : decode cX5_removeTrain 7 = .ok (.putfield 78, 3) := by decide +kernel
theorem dX5_removeTrain_10 : decode cX5_removeTrain 10 = .ok (.iload_n 1, 1) := by decide +kernel
theorem dX5_removeTrain_11 : decode cX5_removeTrain 11 = .ok (.istore_n 2, 1) := by decide +kernel
theorem dX5_removeTrain_12 : decode cX5_removeTrain 12 = .ok (.iload_n 2, 1) := by decide +kernel
theorem dX5_removeTrain_13 : decode cX5_removeTrain 13 = .ok (.aload_n 0, 1) := by decide +kernel
theorem dX5_removeTrain_14 : decode cX5_removeTrain 14 = .ok (.getfield 78, 3) := by decide +kernel
theorem dX5_removeTrain_17 : decode cX5_removeTrain 17 = .ok (.if_icmp .ge 75, 3) := by decide +kernel
theorem dX5_removeTrain_20 : decode cX5_removeTrain 20 = .ok (.aload_n 0, 1) := by decide +kernel
theorem dX5_removeTrain_21 : decode cX5_removeTrain 21 = .ok (.getfield 40, 3) := by decide +kernel
theorem dX5_removeTrain_24 : decode cX5_removeTrain 24 = .ok (.iload_n 2, 1) := by decide +kernel
theorem dX5_removeTrain_25 : decode cX5_removeTrain 25 = .ok (.aload_n 0, 1) := by decide +kernel
theorem dX5_removeTrain_26 : decode cX5_removeTrain 26 = .ok (.getfield 40, 3) := by decide +kernel
theorem dX5_removeTrain_29 : decode cX5_removeTrain 29 = .ok (.iload_n 2, 1) := by decide +kernel
theorem dX5_removeTrain_30 : decode cX5_removeTrain 30 = .ok (.iconst 1, 1) := by decide +kernel
theorem dX5_removeTrain_31 : decode cX5_removeTrain 31 = .ok (.iadd, 1) := by decide +kernel
theorem dX5_removeTrain_32 : decode cX5_removeTrain 32 = .ok (.iaload, 1) := by decide +kernel
theorem dX5_removeTrain_33 : decode cX5_removeTrain 33 = .ok (.iastore, 1) := by decide +kernel
theorem dX5_removeTrain_34 : decode cX5_removeTrain 34 = .ok (.aload_n 0, 1) := by decide +kernel
theorem dX5_removeTrain_35 : decode cX5_removeTrain 35 = .ok (.getfield 43, 3) := by decide +kernel
theorem dX5_removeTrain_38 : decode cX5_removeTrain 38 = .ok (.iload_n 2, 1) := by decide +kernel
theorem dX5_removeTrain_39 : decode cX5_removeTrain 39 = .ok (.aload_n 0, 1) := by decide +kernel
theorem dX5_removeTrain_40 : decode cX5_removeTrain 40 = .ok (.getfield 43, 3) := by decide +kernel
theorem dX5_removeTrain_43 : decode cX5_removeTrain 43 = .ok (.iload_n 2, 1) := by decide +kernel
theorem dX5_removeTrain_44 : decode cX5_removeTrain 44 = .ok (.iconst 1, 1) := by decide +kernel
theorem dX5_removeTrain_45 : decode cX5_removeTrain 45 = .ok (.iadd, 1) := by decide +kernel
theorem dX5_removeTrain_46 : decode cX5_removeTrain 46 = .ok (.iaload, 1) := by decide +kernel
theorem dX5_removeTrain_47 : decode cX5_removeTrain 47 = .ok (.iastore, 1) := by decide +kernel
theorem dX5_removeTrain_48 : decode cX5_removeTrain 48 = .ok (.iconst 0, 1) := by decide +kernel
theorem dX5_removeTrain_49 : decode cX5_removeTrain 49 = .ok (.istore_n 3, 1) := by decide +kernel
theorem dX5_removeTrain_50 : decode cX5_removeTrain 50 = .ok (.iload_n 3, 1) := by decide +kernel
theorem dX5_removeTrain_51 : decode cX5_removeTrain 51 = .ok (.bipush 40, 2) := by decide +kernel
theorem dX5_removeTrain_53 : decode cX5_removeTrain 53 = .ok (.if_icmp .ge 33, 3) := by decide +kernel
theorem dX5_removeTrain_56 : decode cX5_removeTrain 56 = .ok (.aload_n 0, 1) := by decide +kernel
theorem dX5_removeTrain_57 : decode cX5_removeTrain 57 = .ok (.getfield 46, 3) := by decide +kernel
theorem dX5_removeTrain_60 : decode cX5_removeTrain 60 = .ok (.bipush 40, 2) := by decide +kernel
theorem dX5_removeTrain_62 : decode cX5_removeTrain 62 = .ok (.iload_n 2, 1) := by decide +kernel
theorem dX5_removeTrain_63 : decode cX5_removeTrain 63 = .ok (.imul, 1) := by decide +kernel
theorem dX5_removeTrain_64 : decode cX5_removeTrain 64 = .ok (.iload_n 3, 1) := by decide +kernel
theorem dX5_removeTrain_65 : decode cX5_removeTrain 65 = .ok (.iadd, 1) := by decide +kernel
theorem dX5_removeTrain_66 : decode cX5_removeTrain 66 = .ok (.aload_n 0, 1) := by decide +kernel
theorem dX5_removeTrain_67 : decode cX5_removeTrain 67 = .ok (.getfield 46, 3) := by decide +kernel
theorem dX5_removeTrain_70 : decode cX5_removeTrain 70 = .ok (.bipush 40, 2) := by decide +kernel
theorem dX5_removeTrain_72 : decode cX5_removeTrain 72 = .ok (.iload_n 2, 1) := by decide +kernel
theorem dX5_removeTrain_73 : decode cX5_removeTrain 73 = .ok (.iconst 1, 1) := by decide +kernel
theorem dX5_removeTrain_74 : decode cX5_removeTrain 74 = .ok (.iadd, 1) := by decide +kernel
theorem dX5_removeTrain_75 : decode cX5_removeTrain 75 = .ok (.imul, 1) := by decide +kernel
theorem dX5_removeTrain_76 : decode cX5_removeTrain 76 = .ok (.iload_n 3, 1) := by decide +kernel
theorem dX5_removeTrain_77 : decode cX5_removeTrain 77 = .ok (.iadd, 1) := by decide +kernel
theorem dX5_removeTrain_78 : decode cX5_removeTrain 78 = .ok (.iaload, 1) := by decide +kernel
theorem dX5_removeTrain_79 : decode cX5_removeTrain 79 = .ok (.iastore, 1) := by decide +kernel
theorem dX5_removeTrain_80 : decode cX5_removeTrain 80 = .ok (.iinc 3 1, 3) := by decide +kernel
theorem dX5_removeTrain_83 : decode cX5_removeTrain 83 = .ok (.goto (-33), 3) := by decide +kernel
theorem dX5_removeTrain_86 : decode cX5_removeTrain 86 = .ok (.iinc 2 1, 3) := by decide +kernel
theorem dX5_removeTrain_89 : decode cX5_removeTrain 89 = .ok (.goto (-77), 3) := by decide +kernel
theorem dX5_removeTrain_92 : decode cX5_removeTrain 92 = .ok (.return_, 1) := by decide +kernel
theorem dX5_rank_0 : decode cX5_rank 0 = .ok (.iconst 0, 1) := by decide +kernel
theorem dX5_rank_1 : decode cX5_rank 1 = .ok (.istore_n 2, 1) := by decide +kernel
theorem dX5_rank_2 : decode cX5_rank 2 = .ok (.iconst 0, 1) := by decide +kernel
theorem dX5_rank_3 : decode cX5_rank 3 = .ok (.istore_n 3, 1) := by decide +kernel
theorem dX5_rank_4 : decode cX5_rank 4 = .ok (.iload_n 3, 1) := by decide +kernel
theorem dX5_rank_5 : decode cX5_rank 5 = .ok (.aload_n 0, 1) := by decide +kernel
theorem dX5_rank_6 : decode cX5_rank 6 = .ok (.getfield 78, 3) := by decide +kernel
theorem dX5_rank_9 : decode cX5_rank 9 = .ok (.if_icmp .ge 50, 3) := by decide +kernel
theorem dX5_rank_12 : decode cX5_rank 12 = .ok (.iconst 0, 1) := by decide +kernel
theorem dX5_rank_13 : decode cX5_rank 13 = .ok (.istore 4, 2) := by decide +kernel
theorem dX5_rank_15 : decode cX5_rank 15 = .ok (.iload 4, 2) := by decide +kernel
theorem dX5_rank_17 : decode cX5_rank 17 = .ok (.aload_n 0, 1) := by decide +kernel
theorem dX5_rank_18 : decode cX5_rank 18 = .ok (.getfield 43, 3) := by decide +kernel
theorem dX5_rank_21 : decode cX5_rank 21 = .ok (.iload_n 3, 1) := by decide +kernel
theorem dX5_rank_22 : decode cX5_rank 22 = .ok (.iaload, 1) := by decide +kernel
theorem dX5_rank_23 : decode cX5_rank 23 = .ok (.if_icmp .ge 30, 3) := by decide +kernel
theorem dX5_rank_26 : decode cX5_rank 26 = .ok (.aload_n 0, 1) := by decide +kernel
theorem dX5_rank_27 : decode cX5_rank 27 = .ok (.getfield 46, 3) := by decide +kernel
theorem dX5_rank_30 : decode cX5_rank 30 = .ok (.bipush 40, 2) := by decide +kernel
theorem dX5_rank_32 : decode cX5_rank 32 = .ok (.iload_n 3, 1) := by decide +kernel
theorem dX5_rank_33 : decode cX5_rank 33 = .ok (.imul, 1) := by decide +kernel
theorem dX5_rank_34 : decode cX5_rank 34 = .ok (.iload 4, 2) := by decide +kernel
theorem dX5_rank_36 : decode cX5_rank 36 = .ok (.iadd, 1) := by decide +kernel
theorem dX5_rank_37 : decode cX5_rank 37 = .ok (.iaload, 1) := by decide +kernel
theorem dX5_rank_38 : decode cX5_rank 38 = .ok (.iload_n 1, 1) := by decide +kernel
theorem dX5_rank_39 : decode cX5_rank 39 = .ok (.if_icmp .ne 5, 3) := by decide +kernel
theorem dX5_rank_42 : decode cX5_rank 42 = .ok (.iload_n 2, 1) := by decide +kernel
theorem dX5_rank_43 : decode cX5_rank 43 = .ok (.ireturn, 1) := by decide +kernel
theorem dX5_rank_44 : decode cX5_rank 44 = .ok (.iinc 2 1, 3) := by decide +kernel
theorem dX5_rank_47 : decode cX5_rank 47 = .ok (.iinc 4 1, 3) := by decide +kernel
theorem dX5_rank_50 : decode cX5_rank 50 = .ok (.goto (-35), 3) := by decide +kernel
theorem dX5_rank_53 : decode cX5_rank 53 = .ok (.iinc 3 1, 3) := by decide +kernel
theorem dX5_rank_56 : decode cX5_rank 56 = .ok (.goto (-52), 3) := by decide +kernel
theorem dX5_rank_59 : decode cX5_rank 59 = .ok (.iload_n 2, 1) := by decide +kernel
theorem dX5_rank_60 : decode cX5_rank 60 = .ok (.ireturn, 1) := by decide +kernel
theorem dX5_hasRoom_0 : decode cX5_hasRoom 0 = .ok (.bipush 32, 2) := by decide +kernel
theorem dX5_hasRoom_2 : decode cX5_hasRoom 2 = .ok (.aload_n 0, 1) := by decide +kernel
theorem dX5_hasRoom_3 : decode cX5_hasRoom 3 = .ok (.getfield 31, 3) := by decide +kernel
theorem dX5_hasRoom_6 : decode cX5_hasRoom 6 = .ok (.iload_n 1, 1) := by decide +kernel
theorem dX5_hasRoom_7 : decode cX5_hasRoom 7 = .ok (.iaload, 1) := by decide +kernel
theorem dX5_hasRoom_8 : decode cX5_hasRoom 8 = .ok (.isub, 1) := by decide +kernel
theorem dX5_hasRoom_9 : decode cX5_hasRoom 9 = .ok (.iload_n 2, 1) := by decide +kernel
theorem dX5_hasRoom_10 : decode cX5_hasRoom 10 = .ok (.if_icmp .lt 7, 3) := by decide +kernel
theorem dX5_hasRoom_13 : decode cX5_hasRoom 13 = .ok (.iconst 1, 1) := by decide +kernel
theorem dX5_hasRoom_14 : decode cX5_hasRoom 14 = .ok (.goto 4, 3) := by decide +kernel
theorem dX5_hasRoom_17 : decode cX5_hasRoom 17 = .ok (.iconst 0, 1) := by decide +kernel
theorem dX5_hasRoom_18 : decode cX5_hasRoom 18 = .ok (.ireturn, 1) := by decide +kernel
theorem dX5_wordsOf_0 : decode cX5_wordsOf 0 = .ok (.iconst 2, 1) := by decide +kernel
theorem dX5_wordsOf_1 : decode cX5_wordsOf 1 = .ok (.aload_n 0, 1) := by decide +kernel
theorem dX5_wordsOf_2 : decode cX5_wordsOf 2 = .ok (.getfield 19, 3) := by decide +kernel
theorem dX5_wordsOf_5 : decode cX5_wordsOf 5 = .ok (.iload_n 1, 1) := by decide +kernel
theorem dX5_wordsOf_6 : decode cX5_wordsOf 6 = .ok (.iaload, 1) := by decide +kernel
theorem dX5_wordsOf_7 : decode cX5_wordsOf 7 = .ok (.iadd, 1) := by decide +kernel
theorem dX5_wordsOf_8 : decode cX5_wordsOf 8 = .ok (.aload_n 0, 1) := by decide +kernel
theorem dX5_wordsOf_9 : decode cX5_wordsOf 9 = .ok (.getfield 22, 3) := by decide +kernel
theorem dX5_wordsOf_12 : decode cX5_wordsOf 12 = .ok (.iload_n 1, 1) := by decide +kernel
theorem dX5_wordsOf_13 : decode cX5_wordsOf 13 = .ok (.iaload, 1) := by decide +kernel
theorem dX5_wordsOf_14 : decode cX5_wordsOf 14 = .ok (.iadd, 1) := by decide +kernel
theorem dX5_wordsOf_15 : decode cX5_wordsOf 15 = .ok (.ireturn, 1) := by decide +kernel
set_option maxRecDepth 20000 in
theorem ggX5_lay_X5_wordsOf : GoodIn wsX5_lay wsX5_wordsOf := goodIn_r _ [10, 11, 12, 13, 14, 15, 16, 17, 18, 19, 20, 21, 22, 23, 24, 25, 26, 27, 28, 29, 30, 31, 32, 33, 34, 35, 36, 37, 38, 39, 40, 41, 42, 43] (by decide +kernel) (by decide +kernel)
set_option maxRecDepth 20000 in
theorem gX5_lay_X5_wordsOf : GoodIn wsX5_lay (wsV RX5 96 RX5 yX5_wordsOf wsX5_wordsOf) := goodIn_app (goodIn_of _ (by decide +kernel)) ggX5_lay_X5_wordsOf
theorem dX5_lay_0 : decode cX5_lay 0 = .ok (.aload_n 0, 1) := by decide +kernel
theorem dX5_lay_1 : decode cX5_lay 1 = .ok (.getfield 13, 3) := by decide +kernel
theorem dX5_lay_4 : decode cX5_lay 4 = .ok (.iload_n 1, 1) := by decide +kernel
theorem dX5_lay_5 : decode cX5_lay 5 = .ok (.iload_n 2, 1) := by decide +kernel
theorem dX5_lay_6 : decode cX5_lay 6 = .ok (.iastore, 1) := by decide +kernel
theorem dX5_lay_7 : decode cX5_lay 7 = .ok (.aload_n 0, 1) := by decide +kernel
theorem dX5_lay_8 : decode cX5_lay 8 = .ok (.getfield 16, 3) := by decide +kernel
theorem dX5_lay_11 : decode cX5_lay 11 = .ok (.iload_n 1, 1) := by decide +kernel
theorem dX5_lay_12 : decode cX5_lay 12 = .ok (.aload_n 0, 1) := by decide +kernel
theorem dX5_lay_13 : decode cX5_lay 13 = .ok (.getfield 31, 3) := by decide +kernel
theorem dX5_lay_16 : decode cX5_lay 16 = .ok (.iload_n 2, 1) := by decide +kernel
theorem dX5_lay_17 : decode cX5_lay 17 = .ok (.iaload, 1) := by decide +kernel
theorem dX5_lay_18 : decode cX5_lay 18 = .ok (.iastore, 1) := by decide +kernel
theorem dX5_lay_19 : decode cX5_lay 19 = .ok (.aload_n 0, 1) := by decide +kernel
theorem dX5_lay_20 : decode cX5_lay 20 = .ok (.getfield 37, 3) := by decide +kernel
theorem dX5_lay_23 : decode cX5_lay 23 = .ok (.bipush 16, 2) := by decide +kernel
theorem dX5_lay_25 : decode cX5_lay 25 = .ok (.iload_n 2, 1) := by decide +kernel
theorem dX5_lay_26 : decode cX5_lay 26 = .ok (.imul, 1) := by decide +kernel
theorem dX5_lay_27 : decode cX5_lay 27 = .ok (.aload_n 0, 1) := by decide +kernel
theorem dX5_lay_28 : decode cX5_lay 28 = .ok (.getfield 34, 3) := by decide +kernel
theorem dX5_lay_31 : decode cX5_lay 31 = .ok (.iload_n 2, 1) := by decide +kernel
theorem dX5_lay_32 : decode cX5_lay 32 = .ok (.iaload, 1) := by decide +kernel
theorem dX5_lay_33 : decode cX5_lay 33 = .ok (.iadd, 1) := by decide +kernel
theorem dX5_lay_34 : decode cX5_lay 34 = .ok (.iload_n 1, 1) := by decide +kernel
theorem dX5_lay_35 : decode cX5_lay 35 = .ok (.iastore, 1) := by decide +kernel
theorem dX5_lay_36 : decode cX5_lay 36 = .ok (.aload_n 0, 1) := by decide +kernel
theorem dX5_lay_37 : decode cX5_lay 37 = .ok (.getfield 34, 3) := by decide +kernel
theorem dX5_lay_40 : decode cX5_lay 40 = .ok (.iload_n 2, 1) := by decide +kernel
theorem dX5_lay_41 : decode cX5_lay 41 = .ok (.dup2, 1) := by decide +kernel
theorem dX5_lay_42 : decode cX5_lay 42 = .ok (.iaload, 1) := by decide +kernel
theorem dX5_lay_43 : decode cX5_lay 43 = .ok (.iconst 1, 1) := by decide +kernel
theorem dX5_lay_44 : decode cX5_lay 44 = .ok (.iadd, 1) := by decide +kernel
theorem dX5_lay_45 : decode cX5_lay 45 = .ok (.iastore, 1) := by decide +kernel
theorem dX5_lay_46 : decode cX5_lay 46 = .ok (.aload_n 0, 1) := by decide +kernel
theorem dX5_lay_47 : decode cX5_lay 47 = .ok (.getfield 31, 3) := by decide +kernel
theorem dX5_lay_50 : decode cX5_lay 50 = .ok (.iload_n 2, 1) := by decide +kernel
theorem dX5_lay_51 : decode cX5_lay 51 = .ok (.dup2, 1) := by decide +kernel
theorem dX5_lay_52 : decode cX5_lay 52 = .ok (.iaload, 1) := by decide +kernel
theorem dX5_lay_53 : decode cX5_lay 53 = .ok (.aload_n 0, 1) := by decide +kernel
theorem dX5_lay_54 : decode cX5_lay 54 = .ok (.iload_n 1, 1) := by decide +kernel
theorem dX5_lay_55 : decode cX5_lay 55 = .ok (.invokevirtual 96, 3) := by decide +kernel
theorem dX5_lay_58 : decode cX5_lay 58 = .ok (.iadd, 1) := by decide +kernel
theorem dX5_lay_59 : decode cX5_lay 59 = .ok (.iastore, 1) := by decide +kernel
theorem dX5_lay_60 : decode cX5_lay 60 = .ok (.return_, 1) := by decide +kernel
set_option maxRecDepth 20000 in
theorem ggX5_carFor_X5_lastCar : GoodIn wsX5_carFor wsX5_lastCar := goodIn_r _ [9, 4, 3, 28, 29, 30, 31, 32, 33, 34, 35, 36, 37, 38, 39, 40, 41, 42, 43, 44, 45, 46, 47, 48, 49, 50, 51, 52, 53, 54, 55, 56, 57, 58] (by decide +kernel) (by decide +kernel)
set_option maxRecDepth 20000 in
theorem gX5_carFor_X5_lastCar : GoodIn wsX5_carFor (wsV RX5 99 RX5 yX5_lastCar wsX5_lastCar) := goodIn_app (goodIn_of _ (by decide +kernel)) ggX5_carFor_X5_lastCar
set_option maxRecDepth 20000 in
theorem ggX5_carFor_X5_hasRoom : GoodIn wsX5_carFor wsX5_hasRoom := goodIn_r _ [13, 14, 28, 29, 30, 31, 32, 33, 34, 35, 36, 37, 38, 39, 40, 41, 42, 43, 44, 45, 46, 47, 48, 49, 50, 51, 52, 53, 54, 55, 56, 57, 58] (by decide +kernel) (by decide +kernel)
set_option maxRecDepth 20000 in
theorem gX5_carFor_X5_hasRoom : GoodIn wsX5_carFor (wsV RX5 102 RX5 yX5_hasRoom wsX5_hasRoom) := goodIn_app (goodIn_of _ (by decide +kernel)) ggX5_carFor_X5_hasRoom
set_option maxRecDepth 20000 in
theorem ggX5_carFor_X5_freeCar : GoodIn wsX5_carFor wsX5_freeCar := goodIn_r _ [18, 19, 20, 21, 8, 22, 2, 3, 4, 28, 29, 30, 31, 32, 33, 34, 35, 36, 37, 38, 39, 40, 41, 42, 43, 44, 45, 46, 47, 48, 49, 50, 51, 52, 53, 54, 55, 56, 57, 58] (by decide +kernel) (by decide +kernel)
set_option maxRecDepth 20000 in
theorem gX5_carFor_X5_freeCar : GoodIn wsX5_carFor (wsV RX5 85 RX5 yX5_freeCar wsX5_freeCar) := goodIn_app (goodIn_of _ (by decide +kernel)) ggX5_carFor_X5_freeCar
set_option maxRecDepth 20000 in
theorem ggX5_carFor_X5_couple : GoodIn wsX5_carFor wsX5_couple := goodIn_r _ [26, 4, 3, 14, 27, 28, 29, 30, 31, 32, 33, 34, 35, 36, 37, 38, 39, 40, 41, 42, 43, 44, 45, 46, 47, 48, 49, 50, 51, 52, 53, 54, 55, 56, 57, 58] (by decide +kernel) (by decide +kernel)
set_option maxRecDepth 20000 in
theorem gX5_carFor_X5_couple : GoodIn wsX5_carFor (wsV RX5 92 RX5 yX5_couple wsX5_couple) := goodIn_app (goodIn_of _ (by decide +kernel)) ggX5_carFor_X5_couple
theorem dX5_carFor_0 : decode cX5_carFor 0 = .ok (.aload_n 0, 1) := by decide +kernel
theorem dX5_carFor_1 : decode cX5_carFor 1 = .ok (.iload_n 1, 1) := by decide +kernel
theorem dX5_carFor_2 : decode cX5_carFor 2 = .ok (.invokevirtual 99, 3) := by decide +kernel
theorem dX5_carFor_5 : decode cX5_carFor 5 = .ok (.istore_n 3, 1) := by decide +kernel
theorem dX5_carFor_6 : decode cX5_carFor 6 = .ok (.iload_n 3, 1) := by decide +kernel
theorem dX5_carFor_7 : decode cX5_carFor 7 = .ok (.aload_n 0, 1) := by decide +kernel
theorem dX5_carFor_8 : decode cX5_carFor 8 = .ok (.getfield 56, 3) := by decide +kernel
theorem dX5_carFor_11 : decode cX5_carFor 11 = .ok (.if_icmp .eq 14, 3) := by decide +kernel
theorem dX5_carFor_14 : decode cX5_carFor 14 = .ok (.aload_n 0, 1) := by decide +kernel
theorem dX5_carFor_15 : decode cX5_carFor 15 = .ok (.iload_n 3, 1) := by decide +kernel
theorem dX5_carFor_16 : decode cX5_carFor 16 = .ok (.iload_n 2, 1) := by decide +kernel
theorem dX5_carFor_17 : decode cX5_carFor 17 = .ok (.invokevirtual 102, 3) := by decide +kernel
theorem dX5_carFor_20 : decode cX5_carFor 20 = .ok (.ifCond .eq 5, 3) := by decide +kernel
theorem dX5_carFor_23 : decode cX5_carFor 23 = .ok (.iload_n 3, 1) := by decide +kernel
theorem dX5_carFor_24 : decode cX5_carFor 24 = .ok (.ireturn, 1) := by decide +kernel
theorem dX5_carFor_25 : decode cX5_carFor 25 = .ok (.aload_n 0, 1) := by decide +kernel
theorem dX5_carFor_26 : decode cX5_carFor 26 = .ok (.invokevirtual 85, 3) := by decide +kernel
theorem dX5_carFor_29 : decode cX5_carFor 29 = .ok (.istore 4, 2) := by decide +kernel
theorem dX5_carFor_31 : decode cX5_carFor 31 = .ok (.iload 4, 2) := by decide +kernel
theorem dX5_carFor_33 : decode cX5_carFor 33 = .ok (.ifCond .lt 13, 3) := by decide +kernel
theorem dX5_carFor_36 : decode cX5_carFor 36 = .ok (.aload_n 0, 1) := by decide +kernel
theorem dX5_carFor_37 : decode cX5_carFor 37 = .ok (.iload_n 1, 1) := by decide +kernel
theorem dX5_carFor_38 : decode cX5_carFor 38 = .ok (.iload 4, 2) := by decide +kernel
theorem dX5_carFor_40 : decode cX5_carFor 40 = .ok (.invokevirtual 92, 3) := by decide +kernel
theorem dX5_carFor_43 : decode cX5_carFor 43 = .ok (.iload 4, 2) := by decide +kernel
theorem dX5_carFor_45 : decode cX5_carFor 45 = .ok (.ireturn, 1) := by decide +kernel
theorem dX5_carFor_46 : decode cX5_carFor 46 = .ok (.iconst (-1), 1) := by decide +kernel
theorem dX5_carFor_47 : decode cX5_carFor 47 = .ok (.istore 5, 2) := by decide +kernel
theorem dX5_carFor_49 : decode cX5_carFor 49 = .ok (.iconst 0, 1) := by decide +kernel
theorem dX5_carFor_50 : decode cX5_carFor 50 = .ok (.istore 6, 2) := by decide +kernel
theorem dX5_carFor_52 : decode cX5_carFor 52 = .ok (.iload 6, 2) := by decide +kernel
theorem dX5_carFor_54 : decode cX5_carFor 54 = .ok (.aload_n 0, 1) := by decide +kernel
theorem dX5_carFor_55 : decode cX5_carFor 55 = .ok (.getfield 78, 3) := by decide +kernel
theorem dX5_carFor_58 : decode cX5_carFor 58 = .ok (.if_icmp .ge 73, 3) := by decide +kernel
theorem dX5_carFor_61 : decode cX5_carFor 61 = .ok (.iconst 0, 1) := by decide +kernel
theorem dX5_carFor_62 : decode cX5_carFor 62 = .ok (.istore 7, 2) := by decide +kernel
theorem dX5_carFor_64 : decode cX5_carFor 64 = .ok (.iload 7, 2) := by decide +kernel
theorem dX5_carFor_66 : decode cX5_carFor 66 = .ok (.aload_n 0, 1) := by decide +kernel
theorem dX5_carFor_67 : decode cX5_carFor 67 = .ok (.getfield 43, 3) := by decide +kernel
theorem dX5_carFor_70 : decode cX5_carFor 70 = .ok (.iload 6, 2) := by decide +kernel
theorem dX5_carFor_72 : decode cX5_carFor 72 = .ok (.iaload, 1) := by decide +kernel
theorem dX5_carFor_73 : decode cX5_carFor 73 = .ok (.if_icmp .ge 52, 3) := by decide +kernel
theorem dX5_carFor_76 : decode cX5_carFor 76 = .ok (.aload_n 0, 1) := by decide +kernel
theorem dX5_carFor_77 : decode cX5_carFor 77 = .ok (.getfield 46, 3) := by decide +kernel
theorem dX5_carFor_80 : decode cX5_carFor 80 = .ok (.bipush 40, 2) := by decide +kernel
theorem dX5_carFor_82 : decode cX5_carFor 82 = .ok (.iload 6, 2) := by decide +kernel
theorem dX5_carFor_84 : decode cX5_carFor 84 = .ok (.imul, 1) := by decide +kernel
theorem dX5_carFor_85 : decode cX5_carFor 85 = .ok (.iload 7, 2) := by decide +kernel
theorem dX5_carFor_87 : decode cX5_carFor 87 = .ok (.iadd, 1) := by decide +kernel
theorem dX5_carFor_88 : decode cX5_carFor 88 = .ok (.iaload, 1) := by decide +kernel
theorem dX5_carFor_89 : decode cX5_carFor 89 = .ok (.istore 8, 2) := by decide +kernel
theorem dX5_carFor_91 : decode cX5_carFor 91 = .ok (.iload 8, 2) := by decide +kernel
theorem dX5_carFor_93 : decode cX5_carFor 93 = .ok (.aload_n 0, 1) := by decide +kernel
theorem dX5_carFor_94 : decode cX5_carFor 94 = .ok (.getfield 56, 3) := by decide +kernel
theorem dX5_carFor_97 : decode cX5_carFor 97 = .ok (.if_icmp .eq 18, 3) := by decide +kernel
theorem dX5_carFor_100 : decode cX5_carFor 100 = .ok (.aload_n 0, 1) := by decide +kernel
theorem dX5_carFor_101 : decode cX5_carFor 101 = .ok (.iload 8, 2) := by decide +kernel
theorem dX5_carFor_103 : decode cX5_carFor 103 = .ok (.iload_n 2, 1) := by decide +kernel
theorem dX5_carFor_104 : decode cX5_carFor 104 = .ok (.invokevirtual 102, 3) := by decide +kernel
theorem dX5_carFor_107 : decode cX5_carFor 107 = .ok (.ifCond .eq 8, 3) := by decide +kernel
theorem dX5_carFor_110 : decode cX5_carFor 110 = .ok (.iload 8, 2) := by decide +kernel
theorem dX5_carFor_112 : decode cX5_carFor 112 = .ok (.goto 5, 3) := by decide +kernel
theorem dX5_carFor_115 : decode cX5_carFor 115 = .ok (.iload 5, 2) := by decide +kernel
theorem dX5_carFor_117 : decode cX5_carFor 117 = .ok (.istore 5, 2) := by decide +kernel
theorem dX5_carFor_119 : decode cX5_carFor 119 = .ok (.iinc 7 1, 3) := by decide +kernel
theorem dX5_carFor_122 : decode cX5_carFor 122 = .ok (.goto (-58), 3) := by decide +kernel
theorem dX5_carFor_125 : decode cX5_carFor 125 = .ok (.iinc 6 1, 3) := by decide +kernel
theorem dX5_carFor_128 : decode cX5_carFor 128 = .ok (.goto (-76), 3) := by decide +kernel
theorem dX5_carFor_131 : decode cX5_carFor 131 = .ok (.iload 5, 2) := by decide +kernel
theorem dX5_carFor_133 : decode cX5_carFor 133 = .ok (.ireturn, 1) := by decide +kernel
theorem dX5_place_0 : decode cX5_place 0 = .ok (.bipush 32, 2) := by decide +kernel
theorem dX5_place_2 : decode cX5_place 2 = .ok (.aload_n 0, 1) := by decide +kernel
theorem dX5_place_3 : decode cX5_place 3 = .ok (.getfield 13, 3) := by decide +kernel
theorem dX5_place_6 : decode cX5_place 6 = .ok (.iload_n 1, 1) := by decide +kernel
theorem dX5_place_7 : decode cX5_place 7 = .ok (.iaload, 1) := by decide +kernel
theorem dX5_place_8 : decode cX5_place 8 = .ok (.imul, 1) := by decide +kernel
theorem dX5_place_9 : decode cX5_place 9 = .ok (.aload_n 0, 1) := by decide +kernel
theorem dX5_place_10 : decode cX5_place 10 = .ok (.getfield 16, 3) := by decide +kernel
theorem dX5_place_13 : decode cX5_place 13 = .ok (.iload_n 1, 1) := by decide +kernel
theorem dX5_place_14 : decode cX5_place 14 = .ok (.iaload, 1) := by decide +kernel
theorem dX5_place_15 : decode cX5_place 15 = .ok (.iadd, 1) := by decide +kernel
theorem dX5_place_16 : decode cX5_place 16 = .ok (.ireturn, 1) := by decide +kernel
set_option maxRecDepth 20000 in
theorem ggX5_referencePlace_X5_place : GoodIn wsX5_referencePlace wsX5_place := goodIn_r _ [5, 6, 7, 8, 9, 10, 11, 12, 13, 14, 15, 16, 17, 18, 19, 20, 21, 22, 23, 24, 25, 26, 27, 28, 29, 30, 31, 32, 33, 34, 35, 36, 37, 38] (by decide +kernel) (by decide +kernel)
set_option maxRecDepth 20000 in
theorem gX5_referencePlace_X5_place : GoodIn wsX5_referencePlace (wsV RX5 106 RX5 yX5_place wsX5_place) := goodIn_app (goodIn_of _ (by decide +kernel)) ggX5_referencePlace_X5_place
theorem dX5_referencePlace_0 : decode cX5_referencePlace 0 = .ok (.aload_n 0, 1) := by decide +kernel
theorem dX5_referencePlace_1 : decode cX5_referencePlace 1 = .ok (.iload_n 1, 1) := by decide +kernel
theorem dX5_referencePlace_2 : decode cX5_referencePlace 2 = .ok (.invokevirtual 106, 3) := by decide +kernel
theorem dX5_referencePlace_5 : decode cX5_referencePlace 5 = .ok (.iconst 2, 1) := by decide +kernel
theorem dX5_referencePlace_6 : decode cX5_referencePlace 6 = .ok (.iadd, 1) := by decide +kernel
theorem dX5_referencePlace_7 : decode cX5_referencePlace 7 = .ok (.iload_n 2, 1) := by decide +kernel
theorem dX5_referencePlace_8 : decode cX5_referencePlace 8 = .ok (.iadd, 1) := by decide +kernel
theorem dX5_referencePlace_9 : decode cX5_referencePlace 9 = .ok (.ireturn, 1) := by decide +kernel
theorem dX5_isInCar_0 : decode cX5_isInCar 0 = .ok (.iload_n 1, 1) := by decide +kernel
theorem dX5_isInCar_1 : decode cX5_isInCar 1 = .ok (.ifCond .lt 29, 3) := by decide +kernel
theorem dX5_isInCar_4 : decode cX5_isInCar 4 = .ok (.aload_n 0, 1) := by decide +kernel
theorem dX5_isInCar_5 : decode cX5_isInCar 5 = .ok (.getfield 7, 3) := by decide +kernel
theorem dX5_isInCar_8 : decode cX5_isInCar 8 = .ok (.iload_n 1, 1) := by decide +kernel
theorem dX5_isInCar_9 : decode cX5_isInCar 9 = .ok (.iaload, 1) := by decide +kernel
theorem dX5_isInCar_10 : decode cX5_isInCar 10 = .ok (.ifCond .le 20, 3) := by decide +kernel
theorem dX5_isInCar_13 : decode cX5_isInCar 13 = .ok (.aload_n 0, 1) := by decide +kernel
theorem dX5_isInCar_14 : decode cX5_isInCar 14 = .ok (.getfield 13, 3) := by decide +kernel
theorem dX5_isInCar_17 : decode cX5_isInCar 17 = .ok (.iload_n 1, 1) := by decide +kernel
theorem dX5_isInCar_18 : decode cX5_isInCar 18 = .ok (.iaload, 1) := by decide +kernel
theorem dX5_isInCar_19 : decode cX5_isInCar 19 = .ok (.aload_n 0, 1) := by decide +kernel
theorem dX5_isInCar_20 : decode cX5_isInCar 20 = .ok (.getfield 56, 3) := by decide +kernel
theorem dX5_isInCar_23 : decode cX5_isInCar 23 = .ok (.if_icmp .ne 7, 3) := by decide +kernel
theorem dX5_isInCar_26 : decode cX5_isInCar 26 = .ok (.iconst 1, 1) := by decide +kernel
theorem dX5_isInCar_27 : decode cX5_isInCar 27 = .ok (.goto 4, 3) := by decide +kernel
theorem dX5_isInCar_30 : decode cX5_isInCar 30 = .ok (.iconst 0, 1) := by decide +kernel
theorem dX5_isInCar_31 : decode cX5_isInCar 31 = .ok (.ireturn, 1) := by decide +kernel
set_option maxRecDepth 20000 in
theorem ggX5_move_X5_wordsOf : GoodIn wsX5_move wsX5_wordsOf := goodIn_r _ [7, 8, 9, 47, 48, 49, 50, 51, 52, 53, 54, 55, 56, 57, 58, 59, 60, 61, 62, 63, 64, 65, 66, 67, 68, 69, 70, 71, 72, 73, 74, 75, 76, 77] (by decide +kernel) (by decide +kernel)
set_option maxRecDepth 20000 in
theorem gX5_move_X5_wordsOf : GoodIn wsX5_move (wsV RX5 96 RX5 yX5_wordsOf wsX5_wordsOf) := goodIn_app (goodIn_of _ (by decide +kernel)) ggX5_move_X5_wordsOf
set_option maxRecDepth 20000 in
theorem ggX5_move_X5_carFor : GoodIn wsX5_move wsX5_carFor := goodIn_r _ [13, 14, 15, 16, 17, 18, 19, 20, 6, 21, 22, 23, 24, 25, 26, 27, 28, 29, 30, 31, 32, 33, 34, 35, 36, 37, 38, 39, 47, 48, 49, 50, 51, 52, 53, 54, 55, 56, 57, 58, 59, 60, 61, 62, 63, 64, 65, 66, 67, 68, 69, 70, 71, 72, 73, 74, 75, 76, 77] (by decide +kernel) (by decide +kernel)
set_option maxRecDepth 20000 in
theorem gX5_move_X5_carFor : GoodIn wsX5_move (wsV RX5 109 RX5 yX5_carFor wsX5_carFor) := goodIn_app (goodIn_of _ (by decide +kernel)) ggX5_move_X5_carFor
set_option maxRecDepth 20000 in
theorem ggX5_move_X5_lay : GoodIn wsX5_move wsX5_lay := goodIn_r _ [43, 44, 45, 26, 46, 39, 3, 4, 5, 6, 7, 8, 9, 47, 48, 49, 50, 51, 52, 53, 54, 55, 56, 57, 58, 59, 60, 61, 62, 63, 64, 65, 66, 67, 68, 69, 70, 71, 72, 73, 74, 75, 76, 77] (by decide +kernel) (by decide +kernel)
set_option maxRecDepth 20000 in
theorem gX5_move_X5_lay : GoodIn wsX5_move (wsV RX5 113 RX5 yX5_lay wsX5_lay) := goodIn_app (goodIn_of _ (by decide +kernel)) ggX5_move_X5_lay
theorem dX5_move_0 : decode cX5_move 0 = .ok (.aload_n 0, 1) := by decide +kernel
theorem dX5_move_1 : decode cX5_move 1 = .ok (.iload_n 2, 1) := by decide +kernel
theorem dX5_move_2 : decode cX5_move 2 = .ok (.aload_n 0, 1) := by decide +kernel
theorem dX5_move_3 : decode cX5_move 3 = .ok (.iload_n 1, 1) := by decide +kernel
theorem dX5_move_4 : decode cX5_move 4 = .ok (.invokevirtual 96, 3) := by decide +kernel
theorem dX5_move_7 : decode cX5_move 7 = .ok (.invokevirtual 109, 3) := by decide +kernel
theorem dX5_move_10 : decode cX5_move 10 = .ok (.istore_n 3, 1) := by decide +kernel
theorem dX5_move_11 : decode cX5_move 11 = .ok (.aload_n 0, 1) := by decide +kernel
theorem dX5_move_12 : decode cX5_move 12 = .ok (.iload_n 1, 1) := by decide +kernel
theorem dX5_move_13 : decode cX5_move 13 = .ok (.iload_n 3, 1) := by decide +kernel
theorem dX5_move_14 : decode cX5_move 14 = .ok (.invokevirtual 113, 3) := by decide +kernel
theorem dX5_move_17 : decode cX5_move 17 = .ok (.aload_n 0, 1) := by decide +kernel
theorem dX5_move_18 : decode cX5_move 18 = .ok (.dup, 1) := by decide +kernel
theorem dX5_move_19 : decode cX5_move 19 = .ok (.getfield 116, 3) := by decide +kernel
theorem dX5_move_22 : decode cX5_move 22 = .ok (.iconst 1, 1) := by decide +kernel
theorem dX5_move_23 : decode cX5_move 23 = .ok (.iadd, 1) := by decide +kernel
theorem dX5_move_24 : decode cX5_move 24 = .ok (.putfield 116, 3) := by decide +kernel
theorem dX5_move_27 : decode cX5_move 27 = .ok (.aload_n 0, 1) := by decide +kernel
theorem dX5_move_28 : decode cX5_move 28 = .ok (.dup, 1) := by decide +kernel
theorem dX5_move_29 : decode cX5_move 29 = .ok (.getfield 119, 3) := by decide +kernel
theorem dX5_move_32 : decode cX5_move 32 = .ok (.aload_n 0, 1) := by decide +kernel
theorem dX5_move_33 : decode cX5_move 33 = .ok (.iload_n 1, 1) := by decide +kernel
theorem dX5_move_34 : decode cX5_move 34 = .ok (.invokevirtual 96, 3) := by decide +kernel
theorem dX5_move_37 : decode cX5_move 37 = .ok (.iadd, 1) := by decide +kernel
theorem dX5_move_38 : decode cX5_move 38 = .ok (.putfield 119, 3) := by decide +kernel
theorem dX5_move_41 : decode cX5_move 41 = .ok (.return_, 1) := by decide +kernel
set_option maxRecDepth 20000 in
theorem ggX5_moveAll_X5_move : GoodIn wsX5_moveAll wsX5_move := goodIn_r _ [9, 10, 11, 12, 13, 14, 8, 15, 2, 16, 17, 18, 19, 20, 21, 22, 23, 24, 25, 26, 27, 28, 29, 30, 31, 32, 33, 34, 35, 36, 37, 38, 39, 40, 41, 42, 43, 44, 45, 46, 47, 48, 49, 50, 4, 51, 52, 58, 59, 60, 61, 62, 63, 64, 65, 66, 67, 68, 69, 70, 71, 72, 73, 74, 75, 76, 77, 78, 79, 80, 81, 82, 83, 84, 85, 86, 87, 88] (by decide +kernel) (by decide +kernel)
set_option maxRecDepth 20000 in
theorem gX5_moveAll_X5_move : GoodIn wsX5_moveAll (wsV RX5 122 RX5 yX5_move wsX5_move) := goodIn_app (goodIn_of _ (by decide +kernel)) ggX5_moveAll_X5_move
set_option maxRecDepth 20000 in
theorem ggX5_moveAll_X5_isInCar : GoodIn wsX5_moveAll wsX5_isInCar := goodIn_r _ [56, 57, 4, 21, 58, 59, 60, 61, 62, 63, 64, 65, 66, 67, 68, 69, 70, 71, 72, 73, 74, 75, 76, 77, 78, 79, 80, 81, 82, 83, 84, 85, 86, 87, 88] (by decide +kernel) (by decide +kernel)
set_option maxRecDepth 20000 in
theorem gX5_moveAll_X5_isInCar : GoodIn wsX5_moveAll (wsV RX5 125 RX5 yX5_isInCar wsX5_isInCar) := goodIn_app (goodIn_of _ (by decide +kernel)) ggX5_moveAll_X5_isInCar
set_option maxRecDepth 20000 in
theorem ggX5_moveAll_X5_trainOf : GoodIn wsX5_moveAll wsX5_trainOf := goodIn_r _ [41, 22, 23, 24, 58, 59, 60, 61, 62, 63, 64, 65, 66, 67, 68, 69, 70, 71, 72, 73, 74, 75, 76, 77, 78, 79, 80, 81, 82, 83, 84, 85, 86, 87, 88] (by decide +kernel) (by decide +kernel)
set_option maxRecDepth 20000 in
theorem gX5_moveAll_X5_trainOf : GoodIn wsX5_moveAll (wsV RX5 81 RX5 yX5_trainOf wsX5_trainOf) := goodIn_app (goodIn_of _ (by decide +kernel)) ggX5_moveAll_X5_trainOf
theorem dX5_moveAll_0 : decode cX5_moveAll 0 = .ok (.iconst 1, 1) := by decide +kernel
theorem dX5_moveAll_1 : decode cX5_moveAll 1 = .ok (.istore_n 3, 1) := by decide +kernel
theorem dX5_moveAll_2 : decode cX5_moveAll 2 = .ok (.aload_n 0, 1) := by decide +kernel
theorem dX5_moveAll_3 : decode cX5_moveAll 3 = .ok (.getfield 59, 3) := by decide +kernel
theorem dX5_moveAll_6 : decode cX5_moveAll 6 = .ok (.iconst 0, 1) := by decide +kernel
theorem dX5_moveAll_7 : decode cX5_moveAll 7 = .ok (.iload_n 1, 1) := by decide +kernel
theorem dX5_moveAll_8 : decode cX5_moveAll 8 = .ok (.iastore, 1) := by decide +kernel
theorem dX5_moveAll_9 : decode cX5_moveAll 9 = .ok (.aload_n 0, 1) := by decide +kernel
theorem dX5_moveAll_10 : decode cX5_moveAll 10 = .ok (.iload_n 1, 1) := by decide +kernel
theorem dX5_moveAll_11 : decode cX5_moveAll 11 = .ok (.iload_n 2, 1) := by decide +kernel
theorem dX5_moveAll_12 : decode cX5_moveAll 12 = .ok (.invokevirtual 122, 3) := by decide +kernel
theorem dX5_moveAll_15 : decode cX5_moveAll 15 = .ok (.iconst 0, 1) := by decide +kernel
theorem dX5_moveAll_16 : decode cX5_moveAll 16 = .ok (.istore 4, 2) := by decide +kernel
theorem dX5_moveAll_18 : decode cX5_moveAll 18 = .ok (.iload 4, 2) := by decide +kernel
theorem dX5_moveAll_20 : decode cX5_moveAll 20 = .ok (.iload_n 3, 1) := by decide +kernel
theorem dX5_moveAll_21 : decode cX5_moveAll 21 = .ok (.if_icmp .ge 91, 3) := by decide +kernel
theorem dX5_moveAll_24 : decode cX5_moveAll 24 = .ok (.aload_n 0, 1) := by decide +kernel
theorem dX5_moveAll_25 : decode cX5_moveAll 25 = .ok (.getfield 59, 3) := by decide +kernel
theorem dX5_moveAll_28 : decode cX5_moveAll 28 = .ok (.iload 4, 2) := by decide +kernel
theorem dX5_moveAll_30 : decode cX5_moveAll 30 = .ok (.iaload, 1) := by decide +kernel
theorem dX5_moveAll_31 : decode cX5_moveAll 31 = .ok (.istore 5, 2) := by decide +kernel
theorem dX5_moveAll_33 : decode cX5_moveAll 33 = .ok (.iconst 0, 1) := by decide +kernel
theorem dX5_moveAll_34 : decode cX5_moveAll 34 = .ok (.istore 6, 2) := by decide +kernel
theorem dX5_moveAll_36 : decode cX5_moveAll 36 = .ok (.iload 6, 2) := by decide +kernel
theorem dX5_moveAll_38 : decode cX5_moveAll 38 = .ok (.aload_n 0, 1) := by decide +kernel
theorem dX5_moveAll_39 : decode cX5_moveAll 39 = .ok (.getfield 19, 3) := by decide +kernel
theorem dX5_moveAll_42 : decode cX5_moveAll 42 = .ok (.iload 5, 2) := by decide +kernel
theorem dX5_moveAll_44 : decode cX5_moveAll 44 = .ok (.iaload, 1) := by decide +kernel
theorem dX5_moveAll_45 : decode cX5_moveAll 45 = .ok (.if_icmp .ge 61, 3) := by decide +kernel
theorem dX5_moveAll_48 : decode cX5_moveAll 48 = .ok (.aload_n 0, 1) := by decide +kernel
theorem dX5_moveAll_49 : decode cX5_moveAll 49 = .ok (.getfield 25, 3) := by decide +kernel
theorem dX5_moveAll_52 : decode cX5_moveAll 52 = .ok (.bipush 12, 2) := by decide +kernel
theorem dX5_moveAll_54 : decode cX5_moveAll 54 = .ok (.iload 5, 2) := by decide +kernel
theorem dX5_moveAll_56 : decode cX5_moveAll 56 = .ok (.imul, 1) := by decide +kernel
theorem dX5_moveAll_57 : decode cX5_moveAll 57 = .ok (.iload 6, 2) := by decide +kernel
theorem dX5_moveAll_59 : decode cX5_moveAll 59 = .ok (.iadd, 1) := by decide +kernel
theorem dX5_moveAll_60 : decode cX5_moveAll 60 = .ok (.iaload, 1) := by decide +kernel
theorem dX5_moveAll_61 : decode cX5_moveAll 61 = .ok (.istore 7, 2) := by decide +kernel
theorem dX5_moveAll_63 : decode cX5_moveAll 63 = .ok (.aload_n 0, 1) := by decide +kernel
theorem dX5_moveAll_64 : decode cX5_moveAll 64 = .ok (.iload 7, 2) := by decide +kernel
theorem dX5_moveAll_66 : decode cX5_moveAll 66 = .ok (.invokevirtual 125, 3) := by decide +kernel
theorem dX5_moveAll_69 : decode cX5_moveAll 69 = .ok (.ifCond .eq 31, 3) := by decide +kernel
theorem dX5_moveAll_72 : decode cX5_moveAll 72 = .ok (.aload_n 0, 1) := by decide +kernel
theorem dX5_moveAll_73 : decode cX5_moveAll 73 = .ok (.iload 7, 2) := by decide +kernel
theorem dX5_moveAll_75 : decode cX5_moveAll 75 = .ok (.aload_n 0, 1) := by decide +kernel
theorem dX5_moveAll_76 : decode cX5_moveAll 76 = .ok (.aload_n 0, 1) := by decide +kernel
theorem dX5_moveAll_77 : decode cX5_moveAll 77 = .ok (.getfield 13, 3) := by decide +kernel
theorem dX5_moveAll_80 : decode cX5_moveAll 80 = .ok (.iload 5, 2) := by decide +kernel
theorem dX5_moveAll_82 : decode cX5_moveAll 82 = .ok (.iaload, 1) := by decide +kernel
theorem dX5_moveAll_83 : decode cX5_moveAll 83 = .ok (.invokevirtual 81, 3) := by decide +kernel
theorem dX5_moveAll_86 : decode cX5_moveAll 86 = .ok (.invokevirtual 122, 3) := by decide +kernel
theorem dX5_moveAll_89 : decode cX5_moveAll 89 = .ok (.aload_n 0, 1) := by decide +kernel
theorem dX5_moveAll_90 : decode cX5_moveAll 90 = .ok (.getfield 59, 3) := by decide +kernel
theorem dX5_moveAll_93 : decode cX5_moveAll 93 = .ok (.iload_n 3, 1) := by decide +kernel
theorem dX5_moveAll_94 : decode cX5_moveAll 94 = .ok (.iload 7, 2) := by decide +kernel
theorem dX5_moveAll_96 : decode cX5_moveAll 96 = .ok (.iastore, 1) := by decide +kernel
theorem dX5_moveAll_97 : decode cX5_moveAll 97 = .ok (.iinc 3 1, 3) := by decide +kernel
theorem dX5_moveAll_100 : decode cX5_moveAll 100 = .ok (.iinc 6 1, 3) := by decide +kernel
theorem dX5_moveAll_103 : decode cX5_moveAll 103 = .ok (.goto (-67), 3) := by decide +kernel
theorem dX5_moveAll_106 : decode cX5_moveAll 106 = .ok (.iinc 4 1, 3) := by decide +kernel
theorem dX5_moveAll_109 : decode cX5_moveAll 109 = .ok (.goto (-91), 3) := by decide +kernel
theorem dX5_moveAll_112 : decode cX5_moveAll 112 = .ok (.return_, 1) := by decide +kernel
set_option maxRecDepth 20000 in
theorem ggX5_gather_X5_trainOf : GoodIn wsX5_gather wsX5_trainOf := goodIn_r _ [14, 15, 16, 17, 24, 25, 26, 27, 28, 29, 30, 31, 32, 33, 34, 35, 36, 37, 38, 39, 40, 41, 42, 43, 44, 45, 46, 47, 48, 49, 50, 51, 52, 53, 54] (by decide +kernel) (by decide +kernel)
set_option maxRecDepth 20000 in
theorem gX5_gather_X5_trainOf : GoodIn wsX5_gather (wsV RX5 81 RX5 yX5_trainOf wsX5_trainOf) := goodIn_app (goodIn_of _ (by decide +kernel)) ggX5_gather_X5_trainOf
set_option maxRecDepth 20000 in
theorem ggX5_gather_X5_isInCar : GoodIn wsX5_gather wsX5_isInCar := goodIn_r _ [21, 22, 23, 3, 24, 25, 26, 27, 28, 29, 30, 31, 32, 33, 34, 35, 36, 37, 38, 39, 40, 41, 42, 43, 44, 45, 46, 47, 48, 49, 50, 51, 52, 53, 54] (by decide +kernel) (by decide +kernel)
set_option maxRecDepth 20000 in
theorem gX5_gather_X5_isInCar : GoodIn wsX5_gather (wsV RX5 125 RX5 yX5_isInCar wsX5_isInCar) := goodIn_app (goodIn_of _ (by decide +kernel)) ggX5_gather_X5_isInCar
theorem dX5_gather_0 : decode cX5_gather 0 = .ok (.aload_n 0, 1) := by decide +kernel
theorem dX5_gather_1 : decode cX5_gather 1 = .ok (.iconst 0, 1) := by decide +kernel
theorem dX5_gather_2 : decode cX5_gather 2 = .ok (.putfield 129, 3) := by decide +kernel
theorem dX5_gather_5 : decode cX5_gather 5 = .ok (.iconst 0, 1) := by decide +kernel
theorem dX5_gather_6 : decode cX5_gather 6 = .ok (.istore_n 1, 1) := by decide +kernel
theorem dX5_gather_7 : decode cX5_gather 7 = .ok (.iload_n 1, 1) := by decide +kernel
theorem dX5_gather_8 : decode cX5_gather 8 = .ok (.bipush 40, 2) := by decide +kernel
theorem dX5_gather_10 : decode cX5_gather 10 = .ok (.if_icmp .ge 149, 3) := by decide +kernel
theorem dX5_gather_13 : decode cX5_gather 13 = .ok (.aload_n 0, 1) := by decide +kernel
theorem dX5_gather_14 : decode cX5_gather 14 = .ok (.iload_n 1, 1) := by decide +kernel
theorem dX5_gather_15 : decode cX5_gather 15 = .ok (.invokevirtual 81, 3) := by decide +kernel
theorem dX5_gather_18 : decode cX5_gather 18 = .ok (.istore_n 2, 1) := by decide +kernel
theorem dX5_gather_19 : decode cX5_gather 19 = .ok (.iconst 0, 1) := by decide +kernel
theorem dX5_gather_20 : decode cX5_gather 20 = .ok (.istore_n 3, 1) := by decide +kernel
theorem dX5_gather_21 : decode cX5_gather 21 = .ok (.iload_n 3, 1) := by decide +kernel
theorem dX5_gather_22 : decode cX5_gather 22 = .ok (.aload_n 0, 1) := by decide +kernel
theorem dX5_gather_23 : decode cX5_gather 23 = .ok (.getfield 34, 3) := by decide +kernel
theorem dX5_gather_26 : decode cX5_gather 26 = .ok (.iload_n 1, 1) := by decide +kernel
theorem dX5_gather_27 : decode cX5_gather 27 = .ok (.iaload, 1) := by decide +kernel
theorem dX5_gather_28 : decode cX5_gather 28 = .ok (.if_icmp .ge 125, 3) := by decide +kernel
theorem dX5_gather_31 : decode cX5_gather 31 = .ok (.iload_n 2, 1) := by decide +kernel
theorem dX5_gather_32 : decode cX5_gather 32 = .ok (.ifCond .lt 121, 3) := by decide +kernel
theorem dX5_gather_35 : decode cX5_gather 35 = .ok (.iload_n 1, 1) := by decide +kernel
theorem dX5_gather_36 : decode cX5_gather 36 = .ok (.aload_n 0, 1) := by decide +kernel
theorem dX5_gather_37 : decode cX5_gather 37 = .ok (.getfield 56, 3) := by decide +kernel
theorem dX5_gather_40 : decode cX5_gather 40 = .ok (.if_icmp .eq 113, 3) := by decide +kernel
theorem dX5_gather_43 : decode cX5_gather 43 = .ok (.aload_n 0, 1) := by decide +kernel
theorem dX5_gather_44 : decode cX5_gather 44 = .ok (.getfield 37, 3) := by decide +kernel
theorem dX5_gather_47 : decode cX5_gather 47 = .ok (.bipush 16, 2) := by decide +kernel
theorem dX5_gather_49 : decode cX5_gather 49 = .ok (.iload_n 1, 1) := by decide +kernel
theorem dX5_gather_50 : decode cX5_gather 50 = .ok (.imul, 1) := by decide +kernel
theorem dX5_gather_51 : decode cX5_gather 51 = .ok (.iload_n 3, 1) := by decide +kernel
theorem dX5_gather_52 : decode cX5_gather 52 = .ok (.iadd, 1) := by decide +kernel
theorem dX5_gather_53 : decode cX5_gather 53 = .ok (.iaload, 1) := by decide +kernel
theorem dX5_gather_54 : decode cX5_gather 54 = .ok (.istore 4, 2) := by decide +kernel
theorem dX5_gather_56 : decode cX5_gather 56 = .ok (.iconst 0, 1) := by decide +kernel
theorem dX5_gather_57 : decode cX5_gather 57 = .ok (.istore 5, 2) := by decide +kernel
theorem dX5_gather_59 : decode cX5_gather 59 = .ok (.iload 5, 2) := by decide +kernel
theorem dX5_gather_61 : decode cX5_gather 61 = .ok (.aload_n 0, 1) := by decide +kernel
theorem dX5_gather_62 : decode cX5_gather 62 = .ok (.getfield 19, 3) := by decide +kernel
theorem dX5_gather_65 : decode cX5_gather 65 = .ok (.iload 4, 2) := by decide +kernel
theorem dX5_gather_67 : decode cX5_gather 67 = .ok (.iaload, 1) := by decide +kernel
theorem dX5_gather_68 : decode cX5_gather 68 = .ok (.if_icmp .ge 79, 3) := by decide +kernel
theorem dX5_gather_71 : decode cX5_gather 71 = .ok (.aload_n 0, 1) := by decide +kernel
theorem dX5_gather_72 : decode cX5_gather 72 = .ok (.aload_n 0, 1) := by decide +kernel
theorem dX5_gather_73 : decode cX5_gather 73 = .ok (.getfield 25, 3) := by decide +kernel
theorem dX5_gather_76 : decode cX5_gather 76 = .ok (.bipush 12, 2) := by decide +kernel
theorem dX5_gather_78 : decode cX5_gather 78 = .ok (.iload 4, 2) := by decide +kernel
theorem dX5_gather_80 : decode cX5_gather 80 = .ok (.imul, 1) := by decide +kernel
theorem dX5_gather_81 : decode cX5_gather 81 = .ok (.iload 5, 2) := by decide +kernel
theorem dX5_gather_83 : decode cX5_gather 83 = .ok (.iadd, 1) := by decide +kernel
theorem dX5_gather_84 : decode cX5_gather 84 = .ok (.iaload, 1) := by decide +kernel
theorem dX5_gather_85 : decode cX5_gather 85 = .ok (.invokevirtual 125, 3) := by decide +kernel
theorem dX5_gather_88 : decode cX5_gather 88 = .ok (.ifCond .eq 53, 3) := by decide +kernel
theorem dX5_gather_91 : decode cX5_gather 91 = .ok (.aload_n 0, 1) := by decide +kernel
theorem dX5_gather_92 : decode cX5_gather 92 = .ok (.getfield 62, 3) := by decide +kernel
theorem dX5_gather_95 : decode cX5_gather 95 = .ok (.aload_n 0, 1) := by decide +kernel
theorem dX5_gather_96 : decode cX5_gather 96 = .ok (.getfield 129, 3) := by decide +kernel
theorem dX5_gather_99 : decode cX5_gather 99 = .ok (.iload 4, 2) := by decide +kernel
theorem dX5_gather_101 : decode cX5_gather 101 = .ok (.iastore, 1) := by decide +kernel
theorem dX5_gather_102 : decode cX5_gather 102 = .ok (.aload_n 0, 1) := by decide +kernel
theorem dX5_gather_103 : decode cX5_gather 103 = .ok (.getfield 65, 3) := by decide +kernel
theorem dX5_gather_106 : decode cX5_gather 106 = .ok (.aload_n 0, 1) := by decide +kernel
theorem dX5_gather_107 : decode cX5_gather 107 = .ok (.getfield 129, 3) := by decide +kernel
theorem dX5_gather_110 : decode cX5_gather 110 = .ok (.iload 5, 2) := by decide +kernel
theorem dX5_gather_112 : decode cX5_gather 112 = .ok (.iastore, 1) := by decide +kernel
theorem dX5_gather_113 : decode cX5_gather 113 = .ok (.aload_n 0, 1) := by decide +kernel
theorem dX5_gather_114 : decode cX5_gather 114 = .ok (.getfield 68, 3) := by decide +kernel
theorem dX5_gather_117 : decode cX5_gather 117 = .ok (.aload_n 0, 1) := by decide +kernel
theorem dX5_gather_118 : decode cX5_gather 118 = .ok (.getfield 129, 3) := by decide +kernel
theorem dX5_gather_121 : decode cX5_gather 121 = .ok (.iload_n 2, 1) := by decide +kernel
theorem dX5_gather_122 : decode cX5_gather 122 = .ok (.ifCond .ne 7, 3) := by decide +kernel
theorem dX5_gather_125 : decode cX5_gather 125 = .ok (.iconst 1, 1) := by decide +kernel
theorem dX5_gather_126 : decode cX5_gather 126 = .ok (.goto 4, 3) := by decide +kernel
theorem dX5_gather_129 : decode cX5_gather 129 = .ok (.iconst 0, 1) := by decide +kernel
theorem dX5_gather_130 : decode cX5_gather 130 = .ok (.bastore, 1) := by decide +kernel
theorem dX5_gather_131 : decode cX5_gather 131 = .ok (.aload_n 0, 1) := by decide +kernel
theorem dX5_gather_132 : decode cX5_gather 132 = .ok (.dup, 1) := by decide +kernel
theorem dX5_gather_133 : decode cX5_gather 133 = .ok (.getfield 129, 3) := by decide +kernel
theorem dX5_gather_136 : decode cX5_gather 136 = .ok (.iconst 1, 1) := by decide +kernel
theorem dX5_gather_137 : decode cX5_gather 137 = .ok (.iadd, 1) := by decide +kernel
theorem dX5_gather_138 : decode cX5_gather 138 = .ok (.putfield 129, 3) := by decide +kernel
theorem dX5_gather_141 : decode cX5_gather 141 = .ok (.iinc 5 1, 3) := by decide +kernel
theorem dX5_gather_144 : decode cX5_gather 144 = .ok (.goto (-85), 3) := by decide +kernel
theorem dX5_gather_147 : decode cX5_gather 147 = .ok (.iinc 3 1, 3) := by decide +kernel
theorem dX5_gather_150 : decode cX5_gather 150 = .ok (.goto (-129), 3) := by decide +kernel
theorem dX5_gather_153 : decode cX5_gather 153 = .ok (.iinc 1 1, 3) := by decide +kernel
theorem dX5_gather_156 : decode cX5_gather 156 = .ok (.goto (-149), 3) := by decide +kernel
theorem dX5_gather_159 : decode cX5_gather 159 = .ok (.return_, 1) := by decide +kernel
set_option maxRecDepth 20000 in
theorem ggX5_isWanted_X5_trainOf : GoodIn wsX5_isWanted wsX5_trainOf := goodIn_r _ [10, 11, 12, 13, 14, 15, 16, 17, 18, 19, 20, 21, 22, 23, 24, 25, 26, 27, 28, 29, 30, 31, 32, 33, 34, 35, 36, 37, 38, 39, 40, 41, 42, 43, 44] (by decide +kernel) (by decide +kernel)
set_option maxRecDepth 20000 in
theorem gX5_isWanted_X5_trainOf : GoodIn wsX5_isWanted (wsV RX5 81 RX5 yX5_trainOf wsX5_trainOf) := goodIn_app (goodIn_of _ (by decide +kernel)) ggX5_isWanted_X5_trainOf
theorem dX5_isWanted_0 : decode cX5_isWanted 0 = .ok (.iconst 0, 1) := by decide +kernel
theorem dX5_isWanted_1 : decode cX5_isWanted 1 = .ok (.istore_n 1, 1) := by decide +kernel
theorem dX5_isWanted_2 : decode cX5_isWanted 2 = .ok (.iload_n 1, 1) := by decide +kernel
theorem dX5_isWanted_3 : decode cX5_isWanted 3 = .ok (.bipush 16, 2) := by decide +kernel
theorem dX5_isWanted_5 : decode cX5_isWanted 5 = .ok (.if_icmp .ge 38, 3) := by decide +kernel
theorem dX5_isWanted_8 : decode cX5_isWanted 8 = .ok (.aload_n 0, 1) := by decide +kernel
theorem dX5_isWanted_9 : decode cX5_isWanted 9 = .ok (.getfield 49, 3) := by decide +kernel
theorem dX5_isWanted_12 : decode cX5_isWanted 12 = .ok (.iload_n 1, 1) := by decide +kernel
theorem dX5_isWanted_13 : decode cX5_isWanted 13 = .ok (.iaload, 1) := by decide +kernel
theorem dX5_isWanted_14 : decode cX5_isWanted 14 = .ok (.ifCond .lt 23, 3) := by decide +kernel
theorem dX5_isWanted_17 : decode cX5_isWanted 17 = .ok (.aload_n 0, 1) := by decide +kernel
theorem dX5_isWanted_18 : decode cX5_isWanted 18 = .ok (.aload_n 0, 1) := by decide +kernel
theorem dX5_isWanted_19 : decode cX5_isWanted 19 = .ok (.getfield 13, 3) := by decide +kernel
theorem dX5_isWanted_22 : decode cX5_isWanted 22 = .ok (.aload_n 0, 1) := by decide +kernel
theorem dX5_isWanted_23 : decode cX5_isWanted 23 = .ok (.getfield 49, 3) := by decide +kernel
theorem dX5_isWanted_26 : decode cX5_isWanted 26 = .ok (.iload_n 1, 1) := by decide +kernel
theorem dX5_isWanted_27 : decode cX5_isWanted 27 = .ok (.iaload, 1) := by decide +kernel
theorem dX5_isWanted_28 : decode cX5_isWanted 28 = .ok (.iaload, 1) := by decide +kernel
theorem dX5_isWanted_29 : decode cX5_isWanted 29 = .ok (.invokevirtual 81, 3) := by decide +kernel
theorem dX5_isWanted_32 : decode cX5_isWanted 32 = .ok (.ifCond .ne 5, 3) := by decide +kernel
theorem dX5_isWanted_35 : decode cX5_isWanted 35 = .ok (.iconst 1, 1) := by decide +kernel
theorem dX5_isWanted_36 : decode cX5_isWanted 36 = .ok (.ireturn, 1) := by decide +kernel
theorem dX5_isWanted_37 : decode cX5_isWanted 37 = .ok (.iinc 1 1, 3) := by decide +kernel
theorem dX5_isWanted_40 : decode cX5_isWanted 40 = .ok (.goto (-38), 3) := by decide +kernel
theorem dX5_isWanted_43 : decode cX5_isWanted 43 = .ok (.iconst 0, 1) := by decide +kernel
theorem dX5_isWanted_44 : decode cX5_isWanted 44 = .ok (.istore_n 1, 1) := by decide +kernel
theorem dX5_isWanted_45 : decode cX5_isWanted 45 = .ok (.iload_n 1, 1) := by decide +kernel
theorem dX5_isWanted_46 : decode cX5_isWanted 46 = .ok (.sipush 640, 3) := by decide +kernel
theorem dX5_isWanted_49 : decode cX5_isWanted 49 = .ok (.if_icmp .ge 93, 3) := by decide +kernel
theorem dX5_isWanted_52 : decode cX5_isWanted 52 = .ok (.aload_n 0, 1) := by decide +kernel
theorem dX5_isWanted_53 : decode cX5_isWanted 53 = .ok (.getfield 7, 3) := by decide +kernel
theorem dX5_isWanted_56 : decode cX5_isWanted 56 = .ok (.iload_n 1, 1) := by decide +kernel
theorem dX5_isWanted_57 : decode cX5_isWanted 57 = .ok (.iaload, 1) := by decide +kernel
theorem dX5_isWanted_58 : decode cX5_isWanted 58 = .ok (.ifCond .le 20, 3) := by decide +kernel
theorem dX5_isWanted_61 : decode cX5_isWanted 61 = .ok (.aload_n 0, 1) := by decide +kernel
theorem dX5_isWanted_62 : decode cX5_isWanted 62 = .ok (.aload_n 0, 1) := by decide +kernel
theorem dX5_isWanted_63 : decode cX5_isWanted 63 = .ok (.getfield 13, 3) := by decide +kernel
theorem dX5_isWanted_66 : decode cX5_isWanted 66 = .ok (.iload_n 1, 1) := by decide +kernel
theorem dX5_isWanted_67 : decode cX5_isWanted 67 = .ok (.iaload, 1) := by decide +kernel
theorem dX5_isWanted_68 : decode cX5_isWanted 68 = .ok (.invokevirtual 81, 3) := by decide +kernel
theorem dX5_isWanted_71 : decode cX5_isWanted 71 = .ok (.ifCond .le 7, 3) := by decide +kernel
theorem dX5_isWanted_74 : decode cX5_isWanted 74 = .ok (.iconst 1, 1) := by decide +kernel
theorem dX5_isWanted_75 : decode cX5_isWanted 75 = .ok (.goto 4, 3) := by decide +kernel
theorem dX5_isWanted_78 : decode cX5_isWanted 78 = .ok (.iconst 0, 1) := by decide +kernel
theorem dX5_isWanted_79 : decode cX5_isWanted 79 = .ok (.istore_n 2, 1) := by decide +kernel
theorem dX5_isWanted_80 : decode cX5_isWanted 80 = .ok (.iconst 0, 1) := by decide +kernel
theorem dX5_isWanted_81 : decode cX5_isWanted 81 = .ok (.istore_n 3, 1) := by decide +kernel
theorem dX5_isWanted_82 : decode cX5_isWanted 82 = .ok (.iload_n 2, 1) := by decide +kernel
theorem dX5_isWanted_83 : decode cX5_isWanted 83 = .ok (.ifCond .eq 53, 3) := by decide +kernel
theorem dX5_isWanted_86 : decode cX5_isWanted 86 = .ok (.iload_n 3, 1) := by decide +kernel
theorem dX5_isWanted_87 : decode cX5_isWanted 87 = .ok (.aload_n 0, 1) := by decide +kernel
theorem dX5_isWanted_88 : decode cX5_isWanted 88 = .ok (.getfield 19, 3) := by decide +kernel
theorem dX5_isWanted_91 : decode cX5_isWanted 91 = .ok (.iload_n 1, 1) := by decide +kernel
theorem dX5_isWanted_92 : decode cX5_isWanted 92 = .ok (.iaload, 1) := by decide +kernel
theorem dX5_isWanted_93 : decode cX5_isWanted 93 = .ok (.if_icmp .ge 43, 3) := by decide +kernel
theorem dX5_isWanted_96 : decode cX5_isWanted 96 = .ok (.aload_n 0, 1) := by decide +kernel
theorem dX5_isWanted_97 : decode cX5_isWanted 97 = .ok (.getfield 25, 3) := by decide +kernel
theorem dX5_isWanted_100 : decode cX5_isWanted 100 = .ok (.bipush 12, 2) := by decide +kernel
theorem dX5_isWanted_102 : decode cX5_isWanted 102 = .ok (.iload_n 1, 1) := by decide +kernel
theorem dX5_isWanted_103 : decode cX5_isWanted 103 = .ok (.imul, 1) := by decide +kernel
theorem dX5_isWanted_104 : decode cX5_isWanted 104 = .ok (.iload_n 3, 1) := by decide +kernel
theorem dX5_isWanted_105 : decode cX5_isWanted 105 = .ok (.iadd, 1) := by decide +kernel
theorem dX5_isWanted_106 : decode cX5_isWanted 106 = .ok (.iaload, 1) := by decide +kernel
theorem dX5_isWanted_107 : decode cX5_isWanted 107 = .ok (.istore 4, 2) := by decide +kernel
theorem dX5_isWanted_109 : decode cX5_isWanted 109 = .ok (.iload 4, 2) := by decide +kernel
theorem dX5_isWanted_111 : decode cX5_isWanted 111 = .ok (.ifCond .lt 19, 3) := by decide +kernel
theorem dX5_isWanted_114 : decode cX5_isWanted 114 = .ok (.aload_n 0, 1) := by decide +kernel
theorem dX5_isWanted_115 : decode cX5_isWanted 115 = .ok (.aload_n 0, 1) := by decide +kernel
theorem dX5_isWanted_116 : decode cX5_isWanted 116 = .ok (.getfield 13, 3) := by decide +kernel
theorem dX5_isWanted_119 : decode cX5_isWanted 119 = .ok (.iload 4, 2) := by decide +kernel
theorem dX5_isWanted_121 : decode cX5_isWanted 121 = .ok (.iaload, 1) := by decide +kernel
theorem dX5_isWanted_122 : decode cX5_isWanted 122 = .ok (.invokevirtual 81, 3) := by decide +kernel
theorem dX5_isWanted_125 : decode cX5_isWanted 125 = .ok (.ifCond .ne 5, 3) := by decide +kernel
theorem dX5_isWanted_128 : decode cX5_isWanted 128 = .ok (.iconst 1, 1) := by decide +kernel
theorem dX5_isWanted_129 : decode cX5_isWanted 129 = .ok (.ireturn, 1) := by decide +kernel
theorem dX5_isWanted_130 : decode cX5_isWanted 130 = .ok (.iinc 3 1, 3) := by decide +kernel
theorem dX5_isWanted_133 : decode cX5_isWanted 133 = .ok (.goto (-51), 3) := by decide +kernel
theorem dX5_isWanted_136 : decode cX5_isWanted 136 = .ok (.iinc 1 1, 3) := by decide +kernel
theorem dX5_isWanted_139 : decode cX5_isWanted 139 = .ok (.goto (-94), 3) := by decide +kernel
theorem dX5_isWanted_142 : decode cX5_isWanted 142 = .ok (.iconst 0, 1) := by decide +kernel
theorem dX5_isWanted_143 : decode cX5_isWanted 143 = .ok (.ireturn, 1) := by decide +kernel
theorem dX5_forget_0 : decode cX5_forget 0 = .ok (.iconst 0, 1) := by decide +kernel
theorem dX5_forget_1 : decode cX5_forget 1 = .ok (.istore_n 2, 1) := by decide +kernel
theorem dX5_forget_2 : decode cX5_forget 2 = .ok (.iconst 0, 1) := by decide +kernel
theorem dX5_forget_3 : decode cX5_forget 3 = .ok (.istore_n 3, 1) := by decide +kernel
theorem dX5_forget_4 : decode cX5_forget 4 = .ok (.iload_n 3, 1) := by decide +kernel
theorem dX5_forget_5 : decode cX5_forget 5 = .ok (.aload_n 0, 1) := by decide +kernel
theorem dX5_forget_6 : decode cX5_forget 6 = .ok (.getfield 34, 3) := by decide +kernel
theorem dX5_forget_9 : decode cX5_forget 9 = .ok (.iload_n 1, 1) := by decide +kernel
theorem dX5_forget_10 : decode cX5_forget 10 = .ok (.iaload, 1) := by decide +kernel
theorem dX5_forget_11 : decode cX5_forget 11 = .ok (.if_icmp .ge 54, 3) := by decide +kernel
theorem dX5_forget_14 : decode cX5_forget 14 = .ok (.aload_n 0, 1) := by decide +kernel
theorem dX5_forget_15 : decode cX5_forget 15 = .ok (.getfield 37, 3) := by decide +kernel
theorem dX5_forget_18 : decode cX5_forget 18 = .ok (.bipush 16, 2) := by decide +kernel
theorem dX5_forget_20 : decode cX5_forget 20 = .ok (.iload_n 1, 1) := by decide +kernel
theorem dX5_forget_21 : decode cX5_forget 21 = .ok (.imul, 1) := by decide +kernel
theorem dX5_forget_22 : decode cX5_forget 22 = .ok (.iload_n 3, 1) := by decide +kernel
theorem dX5_forget_23 : decode cX5_forget 23 = .ok (.iadd, 1) := by decide +kernel
theorem dX5_forget_24 : decode cX5_forget 24 = .ok (.iaload, 1) := by decide +kernel
theorem dX5_forget_25 : decode cX5_forget 25 = .ok (.istore 4, 2) := by decide +kernel
theorem dX5_forget_27 : decode cX5_forget 27 = .ok (.aload_n 0, 1) := by decide +kernel
theorem dX5_forget_28 : decode cX5_forget 28 = .ok (.getfield 7, 3) := by decide +kernel
theorem dX5_forget_31 : decode cX5_forget 31 = .ok (.iload 4, 2) := by decide +kernel
theorem dX5_forget_33 : decode cX5_forget 33 = .ok (.iaload, 1) := by decide +kernel
theorem dX5_forget_34 : decode cX5_forget 34 = .ok (.ifCond .le 25, 3) := by decide +kernel
theorem dX5_forget_37 : decode cX5_forget 37 = .ok (.aload_n 0, 1) := by decide +kernel
theorem dX5_forget_38 : decode cX5_forget 38 = .ok (.getfield 13, 3) := by decide +kernel
theorem dX5_forget_41 : decode cX5_forget 41 = .ok (.iload 4, 2) := by decide +kernel
theorem dX5_forget_43 : decode cX5_forget 43 = .ok (.iaload, 1) := by decide +kernel
theorem dX5_forget_44 : decode cX5_forget 44 = .ok (.iload_n 1, 1) := by decide +kernel
theorem dX5_forget_45 : decode cX5_forget 45 = .ok (.if_icmp .ne 14, 3) := by decide +kernel
theorem dX5_forget_48 : decode cX5_forget 48 = .ok (.aload_n 0, 1) := by decide +kernel
theorem dX5_forget_49 : decode cX5_forget 49 = .ok (.getfield 7, 3) := by decide +kernel
theorem dX5_forget_52 : decode cX5_forget 52 = .ok (.iload 4, 2) := by decide +kernel
theorem dX5_forget_54 : decode cX5_forget 54 = .ok (.iconst 0, 1) := by decide +kernel
theorem dX5_forget_55 : decode cX5_forget 55 = .ok (.iastore, 1) := by decide +kernel
theorem dX5_forget_56 : decode cX5_forget 56 = .ok (.iinc 2 1, 3) := by decide +kernel
theorem dX5_forget_59 : decode cX5_forget 59 = .ok (.iinc 3 1, 3) := by decide +kernel
theorem dX5_forget_62 : decode cX5_forget 62 = .ok (.goto (-58), 3) := by decide +kernel
theorem dX5_forget_65 : decode cX5_forget 65 = .ok (.aload_n 0, 1) := by decide +kernel
theorem dX5_forget_66 : decode cX5_forget 66 = .ok (.getfield 34, 3) := by decide +kernel
theorem dX5_forget_69 : decode cX5_forget 69 = .ok (.iload_n 1, 1) := by decide +kernel
theorem dX5_forget_70 : decode cX5_forget 70 = .ok (.iconst 0, 1) := by decide +kernel
theorem dX5_forget_71 : decode cX5_forget 71 = .ok (.iastore, 1) := by decide +kernel
theorem dX5_forget_72 : decode cX5_forget 72 = .ok (.aload_n 0, 1) := by decide +kernel
theorem dX5_forget_73 : decode cX5_forget 73 = .ok (.getfield 31, 3) := by decide +kernel
theorem dX5_forget_76 : decode cX5_forget 76 = .ok (.iload_n 1, 1) := by decide +kernel
theorem dX5_forget_77 : decode cX5_forget 77 = .ok (.iconst 0, 1) := by decide +kernel
theorem dX5_forget_78 : decode cX5_forget 78 = .ok (.iastore, 1) := by decide +kernel
theorem dX5_forget_79 : decode cX5_forget 79 = .ok (.aload_n 0, 1) := by decide +kernel
theorem dX5_forget_80 : decode cX5_forget 80 = .ok (.dup, 1) := by decide +kernel
theorem dX5_forget_81 : decode cX5_forget 81 = .ok (.getfield 132, 3) := by decide +kernel
theorem dX5_forget_84 : decode cX5_forget 84 = .ok (.iload_n 2, 1) := by decide +kernel
theorem dX5_forget_85 : decode cX5_forget 85 = .ok (.iadd, 1) := by decide +kernel
theorem dX5_forget_86 : decode cX5_forget 86 = .ok (.putfield 132, 3) := by decide +kernel
theorem dX5_forget_89 : decode cX5_forget 89 = .ok (.iload_n 2, 1) := by decide +kernel
theorem dX5_forget_90 : decode cX5_forget 90 = .ok (.ireturn, 1) := by decide +kernel
set_option maxRecDepth 20000 in
theorem ggX5_oneStep_X5_isWanted : GoodIn wsX5_oneStep wsX5_isWanted := goodIn_r _ [18, 6, 13, 19, 20, 10, 21, 22, 23, 17, 24, 7, 2, 3, 92, 93, 94, 95, 96, 97, 98, 99, 100, 101, 102, 103, 104, 105, 106, 107, 108, 109, 110, 111, 112, 113, 114, 115, 116, 117, 118, 119, 120, 121, 122] (by decide +kernel) (by decide +kernel)
set_option maxRecDepth 20000 in
theorem gX5_oneStep_X5_isWanted : GoodIn wsX5_oneStep (wsV RX5 138 RX5 yX5_isWanted wsX5_isWanted) := goodIn_app (goodIn_of _ (by decide +kernel)) ggX5_oneStep_X5_isWanted
set_option maxRecDepth 20000 in
theorem ggX5_oneStep_X5_forget : GoodIn wsX5_oneStep wsX5_forget := goodIn_r _ [28, 29, 30, 19, 13, 31, 32, 92, 93, 94, 95, 96, 97, 98, 99, 100, 101, 102, 103, 104, 105, 106, 107, 108, 109, 110, 111, 112, 113, 114, 115, 116, 117, 118, 119, 120, 121, 122] (by decide +kernel) (by decide +kernel)
set_option maxRecDepth 20000 in
theorem gX5_oneStep_X5_forget : GoodIn wsX5_oneStep (wsV RX5 142 RX5 yX5_forget wsX5_forget) := goodIn_app (goodIn_of _ (by decide +kernel)) ggX5_oneStep_X5_forget
set_option maxRecDepth 20000 in
theorem ggX5_oneStep_X5_removeTrain : GoodIn wsX5_oneStep wsX5_removeTrain := goodIn_r _ [36, 7, 37, 2, 3, 92, 93, 94, 95, 96, 97, 98, 99, 100, 101, 102, 103, 104, 105, 106, 107, 108, 109, 110, 111, 112, 113, 114, 115, 116, 117, 118, 119, 120, 121, 122] (by decide +kernel) (by decide +kernel)
set_option maxRecDepth 20000 in
theorem gX5_oneStep_X5_removeTrain : GoodIn wsX5_oneStep (wsV RX5 148 RX5 yX5_removeTrain wsX5_removeTrain) := goodIn_app (goodIn_of _ (by decide +kernel)) ggX5_oneStep_X5_removeTrain
set_option maxRecDepth 20000 in
theorem ggX5_oneStep_X5_gather : GoodIn wsX5_oneStep wsX5_gather := goodIn_r _ [41, 8, 29, 5, 30, 20, 10, 9, 11, 12, 21, 22, 23, 17, 24, 7, 2, 3, 42, 43, 44, 45, 19, 13, 92, 93, 94, 95, 96, 97, 98, 99, 100, 101, 102, 103, 104, 105, 106, 107, 108, 109, 110, 111, 112, 113, 114, 115, 116, 117, 118, 119, 120, 121, 122] (by decide +kernel) (by decide +kernel)
set_option maxRecDepth 20000 in
theorem gX5_oneStep_X5_gather : GoodIn wsX5_oneStep (wsV RX5 152 RX5 yX5_gather wsX5_gather) := goodIn_app (goodIn_of _ (by decide +kernel)) ggX5_oneStep_X5_gather
set_option maxRecDepth 20000 in
theorem ggX5_oneStep_X5_isInCar : GoodIn wsX5_oneStep wsX5_isInCar := goodIn_r _ [45, 19, 13, 5, 92, 93, 94, 95, 96, 97, 98, 99, 100, 101, 102, 103, 104, 105, 106, 107, 108, 109, 110, 111, 112, 113, 114, 115, 116, 117, 118, 119, 120, 121, 122] (by decide +kernel) (by decide +kernel)
set_option maxRecDepth 20000 in
theorem gX5_oneStep_X5_isInCar : GoodIn wsX5_oneStep (wsV RX5 125 RX5 yX5_isInCar wsX5_isInCar) := goodIn_app (goodIn_of _ (by decide +kernel)) ggX5_oneStep_X5_isInCar
set_option maxRecDepth 20000 in
theorem ggX5_oneStep_X5_newTrain : GoodIn wsX5_oneStep wsX5_newTrain := goodIn_r _ [49, 50, 37, 7, 2, 51, 52, 53, 17, 54, 21, 22, 23, 24, 3, 55, 56, 57, 58, 31, 29, 92, 93, 94, 95, 96, 97, 98, 99, 100, 101, 102, 103, 104, 105, 106, 107, 108, 109, 110, 111, 112, 113, 114, 115, 116, 117, 118, 119, 120, 121, 122] (by decide +kernel) (by decide +kernel)
set_option maxRecDepth 20000 in
theorem gX5_oneStep_X5_newTrain : GoodIn wsX5_oneStep (wsV RX5 155 RX5 yX5_newTrain wsX5_newTrain) := goodIn_app (goodIn_of _ (by decide +kernel)) ggX5_oneStep_X5_newTrain
set_option maxRecDepth 20000 in
theorem ggX5_oneStep_X5_moveAll : GoodIn wsX5_oneStep wsX5_moveAll := goodIn_r _ [62, 63, 20, 10, 13, 64, 65, 66, 17, 67, 68, 69, 70, 71, 72, 73, 74, 75, 76, 77, 78, 5, 7, 2, 3, 79, 80, 81, 82, 83, 84, 85, 86, 31, 51, 52, 53, 54, 21, 22, 23, 24, 55, 56, 57, 58, 29, 87, 88, 89, 90, 91, 30, 42, 43, 44, 45, 19, 92, 93, 94, 95, 96, 97, 98, 99, 100, 101, 102, 103, 104, 105, 106, 107, 108, 109, 110, 111, 112, 113, 114, 115, 116, 117, 118, 119, 120, 121, 122] (by decide +kernel) (by decide +kernel)
set_option maxRecDepth 20000 in
theorem gX5_oneStep_X5_moveAll : GoodIn wsX5_oneStep (wsV RX5 158 RX5 yX5_moveAll wsX5_moveAll) := goodIn_app (goodIn_of _ (by decide +kernel)) ggX5_oneStep_X5_moveAll
set_option maxRecDepth 20000 in
theorem ggX5_oneStep_X5_trainOf : GoodIn wsX5_oneStep wsX5_trainOf := goodIn_r _ [24, 7, 2, 3, 92, 93, 94, 95, 96, 97, 98, 99, 100, 101, 102, 103, 104, 105, 106, 107, 108, 109, 110, 111, 112, 113, 114, 115, 116, 117, 118, 119, 120, 121, 122] (by decide +kernel) (by decide +kernel)
set_option maxRecDepth 20000 in
theorem gX5_oneStep_X5_trainOf : GoodIn wsX5_oneStep (wsV RX5 81 RX5 yX5_trainOf wsX5_trainOf) := goodIn_app (goodIn_of _ (by decide +kernel)) ggX5_oneStep_X5_trainOf
theorem dX5_oneStep_0 : decode cX5_oneStep 0 = .ok (.aload_n 0, 1) := by decide +kernel
theorem dX5_oneStep_1 : decode cX5_oneStep 1 = .ok (.dup, 1) := by decide +kernel
theorem dX5_oneStep_2 : decode cX5_oneStep 2 = .ok (.getfield 135, 3) := by decide +kernel
theorem dX5_oneStep_5 : decode cX5_oneStep 5 = .ok (.iconst 1, 1) := by decide +kernel
theorem dX5_oneStep_6 : decode cX5_oneStep 6 = .ok (.iadd, 1) := by decide +kernel
theorem dX5_oneStep_7 : decode cX5_oneStep 7 = .ok (.putfield 135, 3) := by decide +kernel
theorem dX5_oneStep_10 : decode cX5_oneStep 10 = .ok (.iconst 0, 1) := by decide +kernel
theorem dX5_oneStep_11 : decode cX5_oneStep 11 = .ok (.istore_n 1, 1) := by decide +kernel
theorem dX5_oneStep_12 : decode cX5_oneStep 12 = .ok (.aload_n 0, 1) := by decide +kernel
theorem dX5_oneStep_13 : decode cX5_oneStep 13 = .ok (.invokevirtual 138, 3) := by decide +kernel
theorem dX5_oneStep_16 : decode cX5_oneStep 16 = .ok (.ifCond .ne 51, 3) := by decide +kernel
theorem dX5_oneStep_19 : decode cX5_oneStep 19 = .ok (.iconst 0, 1) := by decide +kernel
theorem dX5_oneStep_20 : decode cX5_oneStep 20 = .ok (.istore_n 2, 1) := by decide +kernel
theorem dX5_oneStep_21 : decode cX5_oneStep 21 = .ok (.iload_n 2, 1) := by decide +kernel
theorem dX5_oneStep_22 : decode cX5_oneStep 22 = .ok (.aload_n 0, 1) := by decide +kernel
theorem dX5_oneStep_23 : decode cX5_oneStep 23 = .ok (.getfield 43, 3) := by decide +kernel
theorem dX5_oneStep_26 : decode cX5_oneStep 26 = .ok (.iconst 0, 1) := by decide +kernel
theorem dX5_oneStep_27 : decode cX5_oneStep 27 = .ok (.iaload, 1) := by decide +kernel
theorem dX5_oneStep_28 : decode cX5_oneStep 28 = .ok (.if_icmp .ge 22, 3) := by decide +kernel
theorem dX5_oneStep_31 : decode cX5_oneStep 31 = .ok (.iload_n 1, 1) := by decide +kernel
theorem dX5_oneStep_32 : decode cX5_oneStep 32 = .ok (.aload_n 0, 1) := by decide +kernel
theorem dX5_oneStep_33 : decode cX5_oneStep 33 = .ok (.aload_n 0, 1) := by decide +kernel
theorem dX5_oneStep_34 : decode cX5_oneStep 34 = .ok (.getfield 46, 3) := by decide +kernel
theorem dX5_oneStep_37 : decode cX5_oneStep 37 = .ok (.iload_n 2, 1) := by decide +kernel
theorem dX5_oneStep_38 : decode cX5_oneStep 38 = .ok (.iaload, 1) := by decide +kernel
theorem dX5_oneStep_39 : decode cX5_oneStep 39 = .ok (.invokevirtual 142, 3) := by decide +kernel
theorem dX5_oneStep_42 : decode cX5_oneStep 42 = .ok (.iadd, 1) := by decide +kernel
theorem dX5_oneStep_43 : decode cX5_oneStep 43 = .ok (.istore_n 1, 1) := by decide +kernel
theorem dX5_oneStep_44 : decode cX5_oneStep 44 = .ok (.iinc 2 1, 3) := by decide +kernel
theorem dX5_oneStep_47 : decode cX5_oneStep 47 = .ok (.goto (-26), 3) := by decide +kernel
theorem dX5_oneStep_50 : decode cX5_oneStep 50 = .ok (.aload_n 0, 1) := by decide +kernel
theorem dX5_oneStep_51 : decode cX5_oneStep 51 = .ok (.dup, 1) := by decide +kernel
theorem dX5_oneStep_52 : decode cX5_oneStep 52 = .ok (.getfield 145, 3) := by decide +kernel
theorem dX5_oneStep_55 : decode cX5_oneStep 55 = .ok (.iconst 1, 1) := by decide +kernel
theorem dX5_oneStep_56 : decode cX5_oneStep 56 = .ok (.iadd, 1) := by decide +kernel
theorem dX5_oneStep_57 : decode cX5_oneStep 57 = .ok (.putfield 145, 3) := by decide +kernel
theorem dX5_oneStep_60 : decode cX5_oneStep 60 = .ok (.aload_n 0, 1) := by decide +kernel
theorem dX5_oneStep_61 : decode cX5_oneStep 61 = .ok (.iconst 0, 1) := by decide +kernel
theorem dX5_oneStep_62 : decode cX5_oneStep 62 = .ok (.invokevirtual 148, 3) := by decide +kernel
theorem dX5_oneStep_65 : decode cX5_oneStep 65 = .ok (.iload_n 1, 1) := by decide +kernel
theorem dX5_oneStep_66 : decode cX5_oneStep 66 = .ok (.ireturn, 1) := by decide +kernel
theorem dX5_oneStep_67 : decode cX5_oneStep 67 = .ok (.aload_n 0, 1) := by decide +kernel
theorem dX5_oneStep_68 : decode cX5_oneStep 68 = .ok (.aload_n 0, 1) := by decide +kernel
theorem dX5_oneStep_69 : decode cX5_oneStep 69 = .ok (.getfield 46, 3) := by decide +kernel
theorem dX5_oneStep_72 : decode cX5_oneStep 72 = .ok (.iconst 0, 1) := by decide +kernel
theorem dX5_oneStep_73 : decode cX5_oneStep 73 = .ok (.iaload, 1) := by decide +kernel
theorem dX5_oneStep_74 : decode cX5_oneStep 74 = .ok (.putfield 56, 3) := by decide +kernel
theorem dX5_oneStep_77 : decode cX5_oneStep 77 = .ok (.aload_n 0, 1) := by decide +kernel
theorem dX5_oneStep_78 : decode cX5_oneStep 78 = .ok (.invokevirtual 152, 3) := by decide +kernel
theorem dX5_oneStep_81 : decode cX5_oneStep 81 = .ok (.iconst 0, 1) := by decide +kernel
theorem dX5_oneStep_82 : decode cX5_oneStep 82 = .ok (.istore_n 2, 1) := by decide +kernel
theorem dX5_oneStep_83 : decode cX5_oneStep 83 = .ok (.iload_n 2, 1) := by decide +kernel
theorem dX5_oneStep_84 : decode cX5_oneStep 84 = .ok (.bipush 16, 2) := by decide +kernel
theorem dX5_oneStep_86 : decode cX5_oneStep 86 = .ok (.if_icmp .ge 50, 3) := by decide +kernel
theorem dX5_oneStep_89 : decode cX5_oneStep 89 = .ok (.aload_n 0, 1) := by decide +kernel
theorem dX5_oneStep_90 : decode cX5_oneStep 90 = .ok (.aload_n 0, 1) := by decide +kernel
theorem dX5_oneStep_91 : decode cX5_oneStep 91 = .ok (.getfield 49, 3) := by decide +kernel
theorem dX5_oneStep_94 : decode cX5_oneStep 94 = .ok (.iload_n 2, 1) := by decide +kernel
theorem dX5_oneStep_95 : decode cX5_oneStep 95 = .ok (.iaload, 1) := by decide +kernel
theorem dX5_oneStep_96 : decode cX5_oneStep 96 = .ok (.invokevirtual 125, 3) := by decide +kernel
theorem dX5_oneStep_99 : decode cX5_oneStep 99 = .ok (.ifCond .eq 31, 3) := by decide +kernel
theorem dX5_oneStep_102 : decode cX5_oneStep 102 = .ok (.aload_n 0, 1) := by decide +kernel
theorem dX5_oneStep_103 : decode cX5_oneStep 103 = .ok (.getfield 78, 3) := by decide +kernel
theorem dX5_oneStep_106 : decode cX5_oneStep 106 = .ok (.iconst 1, 1) := by decide +kernel
theorem dX5_oneStep_107 : decode cX5_oneStep 107 = .ok (.if_icmp .ne 7, 3) := by decide +kernel
theorem dX5_oneStep_110 : decode cX5_oneStep 110 = .ok (.aload_n 0, 1) := by decide +kernel
theorem dX5_oneStep_111 : decode cX5_oneStep 111 = .ok (.invokevirtual 155, 3) := by decide +kernel
theorem dX5_oneStep_114 : decode cX5_oneStep 114 = .ok (.aload_n 0, 1) := by decide +kernel
theorem dX5_oneStep_115 : decode cX5_oneStep 115 = .ok (.aload_n 0, 1) := by decide +kernel
theorem dX5_oneStep_116 : decode cX5_oneStep 116 = .ok (.getfield 49, 3) := by decide +kernel
theorem dX5_oneStep_119 : decode cX5_oneStep 119 = .ok (.iload_n 2, 1) := by decide +kernel
theorem dX5_oneStep_120 : decode cX5_oneStep 120 = .ok (.iaload, 1) := by decide +kernel
theorem dX5_oneStep_121 : decode cX5_oneStep 121 = .ok (.aload_n 0, 1) := by decide +kernel
theorem dX5_oneStep_122 : decode cX5_oneStep 122 = .ok (.getfield 78, 3) := by decide +kernel
theorem dX5_oneStep_125 : decode cX5_oneStep 125 = .ok (.iconst 1, 1) := by decide +kernel
theorem dX5_oneStep_126 : decode cX5_oneStep 126 = .ok (.isub, 1) := by decide +kernel
theorem dX5_oneStep_127 : decode cX5_oneStep 127 = .ok (.invokevirtual 158, 3) := by decide +kernel
theorem dX5_oneStep_130 : decode cX5_oneStep 130 = .ok (.iinc 2 1, 3) := by decide +kernel
theorem dX5_oneStep_133 : decode cX5_oneStep 133 = .ok (.goto (-50), 3) := by decide +kernel
theorem dX5_oneStep_136 : decode cX5_oneStep 136 = .ok (.iconst 0, 1) := by decide +kernel
theorem dX5_oneStep_137 : decode cX5_oneStep 137 = .ok (.istore_n 2, 1) := by decide +kernel
theorem dX5_oneStep_138 : decode cX5_oneStep 138 = .ok (.iload_n 2, 1) := by decide +kernel
theorem dX5_oneStep_139 : decode cX5_oneStep 139 = .ok (.iconst 2, 1) := by decide +kernel
theorem dX5_oneStep_140 : decode cX5_oneStep 140 = .ok (.if_icmp .ge 106, 3) := by decide +kernel
theorem dX5_oneStep_143 : decode cX5_oneStep 143 = .ok (.iconst 0, 1) := by decide +kernel
theorem dX5_oneStep_144 : decode cX5_oneStep 144 = .ok (.istore_n 3, 1) := by decide +kernel
theorem dX5_oneStep_145 : decode cX5_oneStep 145 = .ok (.iload_n 3, 1) := by decide +kernel
theorem dX5_oneStep_146 : decode cX5_oneStep 146 = .ok (.aload_n 0, 1) := by decide +kernel
theorem dX5_oneStep_147 : decode cX5_oneStep 147 = .ok (.getfield 129, 3) := by decide +kernel
theorem dX5_oneStep_150 : decode cX5_oneStep 150 = .ok (.if_icmp .ge 90, 3) := by decide +kernel
theorem dX5_oneStep_153 : decode cX5_oneStep 153 = .ok (.aload_n 0, 1) := by decide +kernel
theorem dX5_oneStep_154 : decode cX5_oneStep 154 = .ok (.getfield 62, 3) := by decide +kernel
theorem dX5_oneStep_157 : decode cX5_oneStep 157 = .ok (.iload_n 3, 1) := by decide +kernel
theorem dX5_oneStep_158 : decode cX5_oneStep 158 = .ok (.iaload, 1) := by decide +kernel
theorem dX5_oneStep_159 : decode cX5_oneStep 159 = .ok (.istore 4, 2) := by decide +kernel
theorem dX5_oneStep_161 : decode cX5_oneStep 161 = .ok (.aload_n 0, 1) := by decide +kernel
theorem dX5_oneStep_162 : decode cX5_oneStep 162 = .ok (.getfield 25, 3) := by decide +kernel
theorem dX5_oneStep_165 : decode cX5_oneStep 165 = .ok (.bipush 12, 2) := by decide +kernel
theorem dX5_oneStep_167 : decode cX5_oneStep 167 = .ok (.iload 4, 2) := by decide +kernel
theorem dX5_oneStep_169 : decode cX5_oneStep 169 = .ok (.imul, 1) := by decide +kernel
theorem dX5_oneStep_170 : decode cX5_oneStep 170 = .ok (.aload_n 0, 1) := by decide +kernel
theorem dX5_oneStep_171 : decode cX5_oneStep 171 = .ok (.getfield 65, 3) := by decide +kernel
theorem dX5_oneStep_174 : decode cX5_oneStep 174 = .ok (.iload_n 3, 1) := by decide +kernel
theorem dX5_oneStep_175 : decode cX5_oneStep 175 = .ok (.iaload, 1) := by decide +kernel
theorem dX5_oneStep_176 : decode cX5_oneStep 176 = .ok (.iadd, 1) := by decide +kernel
theorem dX5_oneStep_177 : decode cX5_oneStep 177 = .ok (.iaload, 1) := by decide +kernel
theorem dX5_oneStep_178 : decode cX5_oneStep 178 = .ok (.istore 5, 2) := by decide +kernel
theorem dX5_oneStep_180 : decode cX5_oneStep 180 = .ok (.aload_n 0, 1) := by decide +kernel
theorem dX5_oneStep_181 : decode cX5_oneStep 181 = .ok (.getfield 68, 3) := by decide +kernel
theorem dX5_oneStep_184 : decode cX5_oneStep 184 = .ok (.iload_n 3, 1) := by decide +kernel
theorem dX5_oneStep_185 : decode cX5_oneStep 185 = .ok (.baload, 1) := by decide +kernel
theorem dX5_oneStep_186 : decode cX5_oneStep 186 = .ok (.iload_n 2, 1) := by decide +kernel
theorem dX5_oneStep_187 : decode cX5_oneStep 187 = .ok (.iconst 1, 1) := by decide +kernel
theorem dX5_oneStep_188 : decode cX5_oneStep 188 = .ok (.if_icmp .ne 7, 3) := by decide +kernel
theorem dX5_oneStep_191 : decode cX5_oneStep 191 = .ok (.iconst 1, 1) := by decide +kernel
theorem dX5_oneStep_192 : decode cX5_oneStep 192 = .ok (.goto 4, 3) := by decide +kernel
theorem dX5_oneStep_195 : decode cX5_oneStep 195 = .ok (.iconst 0, 1) := by decide +kernel
theorem dX5_oneStep_196 : decode cX5_oneStep 196 = .ok (.if_icmp .ne 38, 3) := by decide +kernel
theorem dX5_oneStep_199 : decode cX5_oneStep 199 = .ok (.aload_n 0, 1) := by decide +kernel
theorem dX5_oneStep_200 : decode cX5_oneStep 200 = .ok (.iload 5, 2) := by decide +kernel
theorem dX5_oneStep_202 : decode cX5_oneStep 202 = .ok (.invokevirtual 125, 3) := by decide +kernel
theorem dX5_oneStep_205 : decode cX5_oneStep 205 = .ok (.ifCond .eq 29, 3) := by decide +kernel
theorem dX5_oneStep_208 : decode cX5_oneStep 208 = .ok (.aload_n 0, 1) := by decide +kernel
theorem dX5_oneStep_209 : decode cX5_oneStep 209 = .ok (.iload 5, 2) := by decide +kernel
theorem dX5_oneStep_211 : decode cX5_oneStep 211 = .ok (.iload_n 2, 1) := by decide +kernel
theorem dX5_oneStep_212 : decode cX5_oneStep 212 = .ok (.iconst 1, 1) := by decide +kernel
theorem dX5_oneStep_213 : decode cX5_oneStep 213 = .ok (.if_icmp .ne 7, 3) := by decide +kernel
theorem dX5_oneStep_216 : decode cX5_oneStep 216 = .ok (.iconst 0, 1) := by decide +kernel
theorem dX5_oneStep_217 : decode cX5_oneStep 217 = .ok (.goto 14, 3) := by decide +kernel
theorem dX5_oneStep_220 : decode cX5_oneStep 220 = .ok (.aload_n 0, 1) := by decide +kernel
theorem dX5_oneStep_221 : decode cX5_oneStep 221 = .ok (.aload_n 0, 1) := by decide +kernel
theorem dX5_oneStep_222 : decode cX5_oneStep 222 = .ok (.getfield 13, 3) := by decide +kernel
theorem dX5_oneStep_225 : decode cX5_oneStep 225 = .ok (.iload 4, 2) := by decide +kernel
theorem dX5_oneStep_227 : decode cX5_oneStep 227 = .ok (.iaload, 1) := by decide +kernel
theorem dX5_oneStep_228 : decode cX5_oneStep 228 = .ok (.invokevirtual 81, 3) := by decide +kernel
theorem dX5_oneStep_231 : decode cX5_oneStep 231 = .ok (.invokevirtual 158, 3) := by decide +kernel
theorem dX5_oneStep_234 : decode cX5_oneStep 234 = .ok (.iinc 3 1, 3) := by decide +kernel
theorem dX5_oneStep_237 : decode cX5_oneStep 237 = .ok (.goto (-92), 3) := by decide +kernel
theorem dX5_oneStep_240 : decode cX5_oneStep 240 = .ok (.iinc 2 1, 3) := by decide +kernel
theorem dX5_oneStep_243 : decode cX5_oneStep 243 = .ok (.goto (-105), 3) := by decide +kernel
theorem dX5_oneStep_246 : decode cX5_oneStep 246 = .ok (.aload_n 0, 1) := by decide +kernel
theorem dX5_oneStep_247 : decode cX5_oneStep 247 = .ok (.aload_n 0, 1) := by decide +kernel
theorem dX5_oneStep_248 : decode cX5_oneStep 248 = .ok (.getfield 56, 3) := by decide +kernel
theorem dX5_oneStep_251 : decode cX5_oneStep 251 = .ok (.invokevirtual 142, 3) := by decide +kernel
theorem dX5_oneStep_254 : decode cX5_oneStep 254 = .ok (.istore_n 1, 1) := by decide +kernel
theorem dX5_oneStep_255 : decode cX5_oneStep 255 = .ok (.aload_n 0, 1) := by decide +kernel
theorem dX5_oneStep_256 : decode cX5_oneStep 256 = .ok (.getfield 43, 3) := by decide +kernel
theorem dX5_oneStep_259 : decode cX5_oneStep 259 = .ok (.iconst 0, 1) := by decide +kernel
theorem dX5_oneStep_260 : decode cX5_oneStep 260 = .ok (.dup2, 1) := by decide +kernel
theorem dX5_oneStep_261 : decode cX5_oneStep 261 = .ok (.iaload, 1) := by decide +kernel
theorem dX5_oneStep_262 : decode cX5_oneStep 262 = .ok (.iconst 1, 1) := by decide +kernel
theorem dX5_oneStep_263 : decode cX5_oneStep 263 = .ok (.isub, 1) := by decide +kernel
theorem dX5_oneStep_264 : decode cX5_oneStep 264 = .ok (.iastore, 1) := by decide +kernel
theorem dX5_oneStep_265 : decode cX5_oneStep 265 = .ok (.iconst 0, 1) := by decide +kernel
theorem dX5_oneStep_266 : decode cX5_oneStep 266 = .ok (.istore_n 2, 1) := by decide +kernel
theorem dX5_oneStep_267 : decode cX5_oneStep 267 = .ok (.iload_n 2, 1) := by decide +kernel
theorem dX5_oneStep_268 : decode cX5_oneStep 268 = .ok (.aload_n 0, 1) := by decide +kernel
theorem dX5_oneStep_269 : decode cX5_oneStep 269 = .ok (.getfield 43, 3) := by decide +kernel
theorem dX5_oneStep_272 : decode cX5_oneStep 272 = .ok (.iconst 0, 1) := by decide +kernel
theorem dX5_oneStep_273 : decode cX5_oneStep 273 = .ok (.iaload, 1) := by decide +kernel
theorem dX5_oneStep_274 : decode cX5_oneStep 274 = .ok (.if_icmp .ge 23, 3) := by decide +kernel
theorem dX5_oneStep_277 : decode cX5_oneStep 277 = .ok (.aload_n 0, 1) := by decide +kernel
theorem dX5_oneStep_278 : decode cX5_oneStep 278 = .ok (.getfield 46, 3) := by decide +kernel
theorem dX5_oneStep_281 : decode cX5_oneStep 281 = .ok (.iload_n 2, 1) := by decide +kernel
theorem dX5_oneStep_282 : decode cX5_oneStep 282 = .ok (.aload_n 0, 1) := by decide +kernel
theorem dX5_oneStep_283 : decode cX5_oneStep 283 = .ok (.getfield 46, 3) := by decide +kernel
theorem dX5_oneStep_286 : decode cX5_oneStep 286 = .ok (.iload_n 2, 1) := by decide +kernel
theorem dX5_oneStep_287 : decode cX5_oneStep 287 = .ok (.iconst 1, 1) := by decide +kernel
theorem dX5_oneStep_288 : decode cX5_oneStep 288 = .ok (.iadd, 1) := by decide +kernel
theorem dX5_oneStep_289 : decode cX5_oneStep 289 = .ok (.iaload, 1) := by decide +kernel
theorem dX5_oneStep_290 : decode cX5_oneStep 290 = .ok (.iastore, 1) := by decide +kernel
theorem dX5_oneStep_291 : decode cX5_oneStep 291 = .ok (.iinc 2 1, 3) := by decide +kernel
theorem dX5_oneStep_294 : decode cX5_oneStep 294 = .ok (.goto (-27), 3) := by decide +kernel
theorem dX5_oneStep_297 : decode cX5_oneStep 297 = .ok (.aload_n 0, 1) := by decide +kernel
theorem dX5_oneStep_298 : decode cX5_oneStep 298 = .ok (.iconst (-1), 1) := by decide +kernel
theorem dX5_oneStep_299 : decode cX5_oneStep 299 = .ok (.putfield 56, 3) := by decide +kernel
theorem dX5_oneStep_302 : decode cX5_oneStep 302 = .ok (.aload_n 0, 1) := by decide +kernel
theorem dX5_oneStep_303 : decode cX5_oneStep 303 = .ok (.getfield 43, 3) := by decide +kernel
theorem dX5_oneStep_306 : decode cX5_oneStep 306 = .ok (.iconst 0, 1) := by decide +kernel
theorem dX5_oneStep_307 : decode cX5_oneStep 307 = .ok (.iaload, 1) := by decide +kernel
theorem dX5_oneStep_308 : decode cX5_oneStep 308 = .ok (.ifCond .ne 8, 3) := by decide +kernel
theorem dX5_oneStep_311 : decode cX5_oneStep 311 = .ok (.aload_n 0, 1) := by decide +kernel
theorem dX5_oneStep_312 : decode cX5_oneStep 312 = .ok (.iconst 0, 1) := by decide +kernel
theorem dX5_oneStep_313 : decode cX5_oneStep 313 = .ok (.invokevirtual 148, 3) := by decide +kernel
theorem dX5_oneStep_316 : decode cX5_oneStep 316 = .ok (.iload_n 1, 1) := by decide +kernel
theorem dX5_oneStep_317 : decode cX5_oneStep 317 = .ok (.ireturn, 1) := by decide +kernel
set_option maxRecDepth 20000 in
theorem ggX5_maySteps_X5_freeCars : GoodIn wsX5_maySteps wsX5_freeCars := goodIn_r _ [6, 1, 7, 8, 9, 10, 11, 12, 13, 14, 15, 16, 17, 18, 19, 20, 21, 22, 23, 24, 25, 26, 27, 28, 29, 30, 31, 32, 33, 34, 35, 36, 37, 38] (by decide +kernel) (by decide +kernel)
set_option maxRecDepth 20000 in
theorem gX5_maySteps_X5_freeCars : GoodIn wsX5_maySteps (wsV RX5 161 RX5 yX5_freeCars wsX5_freeCars) := goodIn_app (goodIn_of _ (by decide +kernel)) ggX5_maySteps_X5_freeCars
theorem dX5_maySteps_0 : decode cX5_maySteps 0 = .ok (.aload_n 0, 1) := by decide +kernel
theorem dX5_maySteps_1 : decode cX5_maySteps 1 = .ok (.getfield 78, 3) := by decide +kernel
theorem dX5_maySteps_4 : decode cX5_maySteps 4 = .ok (.ifCond .le 14, 3) := by decide +kernel
theorem dX5_maySteps_7 : decode cX5_maySteps 7 = .ok (.aload_n 0, 1) := by decide +kernel
theorem dX5_maySteps_8 : decode cX5_maySteps 8 = .ok (.invokevirtual 161, 3) := by decide +kernel
theorem dX5_maySteps_11 : decode cX5_maySteps 11 = .ok (.ifCond .le 7, 3) := by decide +kernel
theorem dX5_maySteps_14 : decode cX5_maySteps 14 = .ok (.iconst 1, 1) := by decide +kernel
theorem dX5_maySteps_15 : decode cX5_maySteps 15 = .ok (.goto 4, 3) := by decide +kernel
theorem dX5_maySteps_18 : decode cX5_maySteps 18 = .ok (.iconst 0, 1) := by decide +kernel
theorem dX5_maySteps_19 : decode cX5_maySteps 19 = .ok (.ireturn, 1) := by decide +kernel
set_option maxRecDepth 20000 in
theorem ggX5_step_X5_maySteps : GoodIn wsX5_step wsX5_maySteps := goodIn_r _ [6, 7, 8, 9, 10, 5, 11, 12, 105, 106, 107, 108, 109, 110, 111, 112, 113, 114, 115, 116, 117, 118, 119, 120, 121, 122, 123, 124, 125, 126, 127, 128, 129, 130, 131, 132, 133, 134, 135] (by decide +kernel) (by decide +kernel)
set_option maxRecDepth 20000 in
theorem gX5_step_X5_maySteps : GoodIn wsX5_step (wsV RX5 164 RX5 yX5_maySteps wsX5_maySteps) := goodIn_app (goodIn_of _ (by decide +kernel)) ggX5_step_X5_maySteps
set_option maxRecDepth 20000 in
theorem ggX5_step_X5_oneStep : GoodIn wsX5_step wsX5_oneStep := goodIn_r _ [16, 17, 12, 18, 19, 20, 21, 7, 22, 23, 24, 25, 26, 27, 28, 29, 30, 5, 31, 32, 33, 34, 35, 36, 37, 38, 39, 40, 41, 42, 43, 44, 45, 46, 47, 48, 49, 50, 51, 52, 53, 54, 55, 56, 57, 58, 59, 60, 61, 62, 63, 64, 65, 66, 67, 68, 69, 70, 71, 72, 73, 74, 75, 76, 77, 78, 79, 80, 81, 82, 83, 84, 85, 86, 87, 88, 89, 90, 91, 92, 93, 94, 95, 96, 97, 98, 99, 100, 101, 102, 103, 104, 105, 106, 107, 108, 109, 110, 111, 112, 113, 114, 115, 116, 117, 118, 119, 120, 121, 122, 123, 124, 125, 126, 127, 128, 129, 130, 131, 132, 133, 134, 135] (by decide +kernel) (by decide +kernel)
set_option maxRecDepth 20000 in
theorem gX5_step_X5_oneStep : GoodIn wsX5_step (wsV RX5 167 RX5 yX5_oneStep wsX5_oneStep) := goodIn_app (goodIn_of _ (by decide +kernel)) ggX5_step_X5_oneStep
theorem dX5_step_0 : decode cX5_step 0 = .ok (.aload_n 0, 1) := by decide +kernel
theorem dX5_step_1 : decode cX5_step 1 = .ok (.iconst 0, 1) := by decide +kernel
theorem dX5_step_2 : decode cX5_step 2 = .ok (.putfield 75, 3) := by decide +kernel
theorem dX5_step_5 : decode cX5_step 5 = .ok (.aload_n 0, 1) := by decide +kernel
theorem dX5_step_6 : decode cX5_step 6 = .ok (.invokevirtual 164, 3) := by decide +kernel
theorem dX5_step_9 : decode cX5_step 9 = .ok (.ifCond .eq 10, 3) := by decide +kernel
theorem dX5_step_12 : decode cX5_step 12 = .ok (.aload_n 0, 1) := by decide +kernel
theorem dX5_step_13 : decode cX5_step 13 = .ok (.invokevirtual 167, 3) := by decide +kernel
theorem dX5_step_16 : decode cX5_step 16 = .ok (.goto 4, 3) := by decide +kernel
theorem dX5_step_19 : decode cX5_step 19 = .ok (.iconst (-1), 1) := by decide +kernel
theorem dX5_step_20 : decode cX5_step 20 = .ok (.ireturn, 1) := by decide +kernel
set_option maxRecDepth 20000 in
theorem ggX5_collect_X5_freeCars : GoodIn wsX5_collect wsX5_freeCars := goodIn_r _ [6, 7, 8, 105, 106, 107, 108, 109, 110, 111, 112, 113, 114, 115, 116, 117, 118, 119, 120, 121, 122, 123, 124, 125, 126, 127, 128, 129, 130, 131, 132, 133, 134, 135] (by decide +kernel) (by decide +kernel)
set_option maxRecDepth 20000 in
theorem gX5_collect_X5_freeCars : GoodIn wsX5_collect (wsV RX5 161 RX5 yX5_freeCars wsX5_freeCars) := goodIn_app (goodIn_of _ (by decide +kernel)) ggX5_collect_X5_freeCars
set_option maxRecDepth 20000 in
theorem ggX5_collect_X5_maySteps : GoodIn wsX5_collect wsX5_maySteps := goodIn_r _ [12, 7, 2, 3, 4, 5, 6, 8, 105, 106, 107, 108, 109, 110, 111, 112, 113, 114, 115, 116, 117, 118, 119, 120, 121, 122, 123, 124, 125, 126, 127, 128, 129, 130, 131, 132, 133, 134, 135] (by decide +kernel) (by decide +kernel)
set_option maxRecDepth 20000 in
theorem gX5_collect_X5_maySteps : GoodIn wsX5_collect (wsV RX5 164 RX5 yX5_maySteps wsX5_maySteps) := goodIn_app (goodIn_of _ (by decide +kernel)) ggX5_collect_X5_maySteps
set_option maxRecDepth 20000 in
theorem ggX5_collect_X5_oneStep : GoodIn wsX5_collect wsX5_oneStep := goodIn_r _ [16, 17, 8, 18, 19, 20, 21, 7, 22, 23, 24, 25, 26, 27, 28, 29, 30, 5, 31, 32, 33, 34, 35, 36, 37, 38, 39, 40, 41, 42, 43, 44, 45, 46, 47, 48, 49, 50, 51, 52, 53, 54, 55, 56, 57, 58, 59, 60, 61, 62, 63, 64, 65, 66, 67, 68, 69, 70, 71, 72, 73, 74, 75, 76, 77, 78, 79, 80, 81, 82, 83, 84, 85, 86, 87, 88, 89, 90, 91, 92, 93, 94, 95, 96, 97, 98, 99, 100, 101, 102, 103, 104, 105, 106, 107, 108, 109, 110, 111, 112, 113, 114, 115, 116, 117, 118, 119, 120, 121, 122, 123, 124, 125, 126, 127, 128, 129, 130, 131, 132, 133, 134, 135] (by decide +kernel) (by decide +kernel)
set_option maxRecDepth 20000 in
theorem gX5_collect_X5_oneStep : GoodIn wsX5_collect (wsV RX5 167 RX5 yX5_oneStep wsX5_oneStep) := goodIn_app (goodIn_of _ (by decide +kernel)) ggX5_collect_X5_oneStep
theorem dX5_collect_0 : decode cX5_collect 0 = .ok (.aload_n 0, 1) := by decide +kernel
theorem dX5_collect_1 : decode cX5_collect 1 = .ok (.iload_n 1, 1) := by decide +kernel
theorem dX5_collect_2 : decode cX5_collect 2 = .ok (.ifCond .lt 9, 3) := by decide +kernel
theorem dX5_collect_5 : decode cX5_collect 5 = .ok (.iload_n 1, 1) := by decide +kernel
theorem dX5_collect_6 : decode cX5_collect 6 = .ok (.bipush 100, 2) := by decide +kernel
theorem dX5_collect_8 : decode cX5_collect 8 = .ok (.if_icmp .le 7, 3) := by decide +kernel
theorem dX5_collect_11 : decode cX5_collect 11 = .ok (.iconst 1, 1) := by decide +kernel
theorem dX5_collect_12 : decode cX5_collect 12 = .ok (.goto 4, 3) := by decide +kernel
theorem dX5_collect_15 : decode cX5_collect 15 = .ok (.iconst 0, 1) := by decide +kernel
theorem dX5_collect_16 : decode cX5_collect 16 = .ok (.putfield 75, 3) := by decide +kernel
theorem dX5_collect_19 : decode cX5_collect 19 = .ok (.aload_n 0, 1) := by decide +kernel
theorem dX5_collect_20 : decode cX5_collect 20 = .ok (.getfield 75, 3) := by decide +kernel
theorem dX5_collect_23 : decode cX5_collect 23 = .ok (.ifCond .le 5, 3) := by decide +kernel
theorem dX5_collect_26 : decode cX5_collect 26 = .ok (.iconst 0, 1) := by decide +kernel
theorem dX5_collect_27 : decode cX5_collect 27 = .ok (.ireturn, 1) := by decide +kernel
theorem dX5_collect_28 : decode cX5_collect 28 = .ok (.iload_n 1, 1) := by decide +kernel
theorem dX5_collect_29 : decode cX5_collect 29 = .ok (.ifCond .ne 13, 3) := by decide +kernel
theorem dX5_collect_32 : decode cX5_collect 32 = .ok (.bipush 40, 2) := by decide +kernel
theorem dX5_collect_34 : decode cX5_collect 34 = .ok (.aload_n 0, 1) := by decide +kernel
theorem dX5_collect_35 : decode cX5_collect 35 = .ok (.invokevirtual 161, 3) := by decide +kernel
theorem dX5_collect_38 : decode cX5_collect 38 = .ok (.isub, 1) := by decide +kernel
theorem dX5_collect_39 : decode cX5_collect 39 = .ok (.goto 4, 3) := by decide +kernel
theorem dX5_collect_42 : decode cX5_collect 42 = .ok (.iload_n 1, 1) := by decide +kernel
theorem dX5_collect_43 : decode cX5_collect 43 = .ok (.istore_n 2, 1) := by decide +kernel
theorem dX5_collect_44 : decode cX5_collect 44 = .ok (.iconst 0, 1) := by decide +kernel
theorem dX5_collect_45 : decode cX5_collect 45 = .ok (.istore_n 3, 1) := by decide +kernel
theorem dX5_collect_46 : decode cX5_collect 46 = .ok (.iconst 0, 1) := by decide +kernel
theorem dX5_collect_47 : decode cX5_collect 47 = .ok (.istore 4, 2) := by decide +kernel
theorem dX5_collect_49 : decode cX5_collect 49 = .ok (.iload 4, 2) := by decide +kernel
theorem dX5_collect_51 : decode cX5_collect 51 = .ok (.iload_n 2, 1) := by decide +kernel
theorem dX5_collect_52 : decode cX5_collect 52 = .ok (.if_icmp .ge 23, 3) := by decide +kernel
theorem dX5_collect_55 : decode cX5_collect 55 = .ok (.aload_n 0, 1) := by decide +kernel
theorem dX5_collect_56 : decode cX5_collect 56 = .ok (.invokevirtual 164, 3) := by decide +kernel
theorem dX5_collect_59 : decode cX5_collect 59 = .ok (.ifCond .eq 16, 3) := by decide +kernel
theorem dX5_collect_62 : decode cX5_collect 62 = .ok (.iload_n 3, 1) := by decide +kernel
theorem dX5_collect_63 : decode cX5_collect 63 = .ok (.aload_n 0, 1) := by decide +kernel
theorem dX5_collect_64 : decode cX5_collect 64 = .ok (.invokevirtual 167, 3) := by decide +kernel
theorem dX5_collect_67 : decode cX5_collect 67 = .ok (.iadd, 1) := by decide +kernel
theorem dX5_collect_68 : decode cX5_collect 68 = .ok (.istore_n 3, 1) := by decide +kernel
theorem dX5_collect_69 : decode cX5_collect 69 = .ok (.iinc 4 1, 3) := by decide +kernel
theorem dX5_collect_72 : decode cX5_collect 72 = .ok (.goto (-23), 3) := by decide +kernel
theorem dX5_collect_75 : decode cX5_collect 75 = .ok (.iload_n 3, 1) := by decide +kernel
theorem dX5_collect_76 : decode cX5_collect 76 = .ok (.ireturn, 1) := by decide +kernel
theorem dX5_noRegister_0 : decode cX5_noRegister 0 = .ok (.iload_n 0, 1) := by decide +kernel
theorem dX5_noRegister_1 : decode cX5_noRegister 1 = .ok (.ifCond .lt 9, 3) := by decide +kernel
theorem dX5_noRegister_4 : decode cX5_noRegister 4 = .ok (.iload_n 0, 1) := by decide +kernel
theorem dX5_noRegister_5 : decode cX5_noRegister 5 = .ok (.bipush 16, 2) := by decide +kernel
theorem dX5_noRegister_7 : decode cX5_noRegister 7 = .ok (.if_icmp .lt 7, 3) := by decide +kernel
theorem dX5_noRegister_10 : decode cX5_noRegister 10 = .ok (.iconst 1, 1) := by decide +kernel
theorem dX5_noRegister_11 : decode cX5_noRegister 11 = .ok (.goto 4, 3) := by decide +kernel
theorem dX5_noRegister_14 : decode cX5_noRegister 14 = .ok (.iconst 0, 1) := by decide +kernel
theorem dX5_noRegister_15 : decode cX5_noRegister 15 = .ok (.ireturn, 1) := by decide +kernel
theorem dX5_length_0 : decode cX5_length 0 = .ok (.aload_n 0, 1) := by decide +kernel
theorem dX5_length_1 : decode cX5_length 1 = .ok (.iload_n 1, 1) := by decide +kernel
theorem dX5_length_2 : decode cX5_length 2 = .ok (.iconst 1, 1) := by decide +kernel
theorem dX5_length_3 : decode cX5_length 3 = .ok (.if_icmp .lt 9, 3) := by decide +kernel
theorem dX5_length_6 : decode cX5_length 6 = .ok (.iload_n 1, 1) := by decide +kernel
theorem dX5_length_7 : decode cX5_length 7 = .ok (.bipush 40, 2) := by decide +kernel
theorem dX5_length_9 : decode cX5_length 9 = .ok (.if_icmp .le 7, 3) := by decide +kernel
theorem dX5_length_12 : decode cX5_length 12 = .ok (.iconst 1, 1) := by decide +kernel
theorem dX5_length_13 : decode cX5_length 13 = .ok (.goto 4, 3) := by decide +kernel
theorem dX5_length_16 : decode cX5_length 16 = .ok (.iconst 0, 1) := by decide +kernel
theorem dX5_length_17 : decode cX5_length 17 = .ok (.putfield 75, 3) := by decide +kernel
theorem dX5_length_20 : decode cX5_length 20 = .ok (.aload_n 0, 1) := by decide +kernel
theorem dX5_length_21 : decode cX5_length 21 = .ok (.getfield 75, 3) := by decide +kernel
theorem dX5_length_24 : decode cX5_length 24 = .ok (.ifCond .le 5, 3) := by decide +kernel
theorem dX5_length_27 : decode cX5_length 27 = .ok (.iconst 0, 1) := by decide +kernel
theorem dX5_length_28 : decode cX5_length 28 = .ok (.ireturn, 1) := by decide +kernel
theorem dX5_length_29 : decode cX5_length 29 = .ok (.aload_n 0, 1) := by decide +kernel
theorem dX5_length_30 : decode cX5_length 30 = .ok (.getfield 52, 3) := by decide +kernel
theorem dX5_length_33 : decode cX5_length 33 = .ok (.istore_n 2, 1) := by decide +kernel
theorem dX5_length_34 : decode cX5_length 34 = .ok (.aload_n 0, 1) := by decide +kernel
theorem dX5_length_35 : decode cX5_length 35 = .ok (.iload_n 1, 1) := by decide +kernel
theorem dX5_length_36 : decode cX5_length 36 = .ok (.putfield 52, 3) := by decide +kernel
theorem dX5_length_39 : decode cX5_length 39 = .ok (.iload_n 2, 1) := by decide +kernel
theorem dX5_length_40 : decode cX5_length 40 = .ok (.ireturn, 1) := by decide +kernel
set_option maxRecDepth 20000 in
theorem ggX5_lastHasRoom_X5_lastCar : GoodIn wsX5_lastHasRoom wsX5_lastCar := goodIn_r _ [6, 7, 8, 14, 15, 16, 17, 18, 19, 20, 21, 22, 23, 24, 25, 26, 27, 28, 29, 30, 31, 32, 33, 34, 35, 36, 37, 38, 39, 40, 41, 42, 43, 44] (by decide +kernel) (by decide +kernel)
set_option maxRecDepth 20000 in
theorem gX5_lastHasRoom_X5_lastCar : GoodIn wsX5_lastHasRoom (wsV RX5 99 RX5 yX5_lastCar wsX5_lastCar) := goodIn_app (goodIn_of _ (by decide +kernel)) ggX5_lastHasRoom_X5_lastCar
set_option maxRecDepth 20000 in
theorem ggX5_lastHasRoom_X5_hasRoom : GoodIn wsX5_lastHasRoom wsX5_hasRoom := goodIn_r _ [12, 13, 14, 15, 16, 17, 18, 19, 20, 21, 22, 23, 24, 25, 26, 27, 28, 29, 30, 31, 32, 33, 34, 35, 36, 37, 38, 39, 40, 41, 42, 43, 44] (by decide +kernel) (by decide +kernel)
set_option maxRecDepth 20000 in
theorem gX5_lastHasRoom_X5_hasRoom : GoodIn wsX5_lastHasRoom (wsV RX5 102 RX5 yX5_hasRoom wsX5_hasRoom) := goodIn_app (goodIn_of _ (by decide +kernel)) ggX5_lastHasRoom_X5_hasRoom
theorem dX5_lastHasRoom_0 : decode cX5_lastHasRoom 0 = .ok (.aload_n 0, 1) := by decide +kernel
theorem dX5_lastHasRoom_1 : decode cX5_lastHasRoom 1 = .ok (.getfield 78, 3) := by decide +kernel
theorem dX5_lastHasRoom_4 : decode cX5_lastHasRoom 4 = .ok (.ifCond .le 25, 3) := by decide +kernel
theorem dX5_lastHasRoom_7 : decode cX5_lastHasRoom 7 = .ok (.aload_n 0, 1) := by decide +kernel
theorem dX5_lastHasRoom_8 : decode cX5_lastHasRoom 8 = .ok (.aload_n 0, 1) := by decide +kernel
theorem dX5_lastHasRoom_9 : decode cX5_lastHasRoom 9 = .ok (.aload_n 0, 1) := by decide +kernel
theorem dX5_lastHasRoom_10 : decode cX5_lastHasRoom 10 = .ok (.getfield 78, 3) := by decide +kernel
theorem dX5_lastHasRoom_13 : decode cX5_lastHasRoom 13 = .ok (.iconst 1, 1) := by decide +kernel
theorem dX5_lastHasRoom_14 : decode cX5_lastHasRoom 14 = .ok (.isub, 1) := by decide +kernel
theorem dX5_lastHasRoom_15 : decode cX5_lastHasRoom 15 = .ok (.invokevirtual 99, 3) := by decide +kernel
theorem dX5_lastHasRoom_18 : decode cX5_lastHasRoom 18 = .ok (.iload_n 1, 1) := by decide +kernel
theorem dX5_lastHasRoom_19 : decode cX5_lastHasRoom 19 = .ok (.invokevirtual 102, 3) := by decide +kernel
theorem dX5_lastHasRoom_22 : decode cX5_lastHasRoom 22 = .ok (.ifCond .eq 7, 3) := by decide +kernel
theorem dX5_lastHasRoom_25 : decode cX5_lastHasRoom 25 = .ok (.iconst 1, 1) := by decide +kernel
theorem dX5_lastHasRoom_26 : decode cX5_lastHasRoom 26 = .ok (.goto 4, 3) := by decide +kernel
theorem dX5_lastHasRoom_29 : decode cX5_lastHasRoom 29 = .ok (.iconst 0, 1) := by decide +kernel
theorem dX5_lastHasRoom_30 : decode cX5_lastHasRoom 30 = .ok (.ireturn, 1) := by decide +kernel
set_option maxRecDepth 20000 in
theorem ggX5_make_X5_noRegister : GoodIn wsX5_make wsX5_noRegister := goodIn_r _ [15] (by decide +kernel) (by decide +kernel)
set_option maxRecDepth 20000 in
theorem gX5_make_X5_noRegister : GoodIn wsX5_make (va_wsS RX5 170 yX5_noRegister wsX5_noRegister) := goodIn_app (goodIn_of _ (by decide +kernel)) ggX5_make_X5_noRegister
set_option maxRecDepth 20000 in
theorem ggX5_make_X5_freeCars : GoodIn wsX5_make wsX5_freeCars := goodIn_r _ [19, 2, 3, 115, 116, 117, 118, 119, 120, 121, 122, 123, 124, 125, 126, 127, 128, 129, 130, 131, 132, 133, 134, 135, 136, 137, 138, 139, 140, 141, 142, 143, 144, 145] (by decide +kernel) (by decide +kernel)
set_option maxRecDepth 20000 in
theorem gX5_make_X5_freeCars : GoodIn wsX5_make (wsV RX5 161 RX5 yX5_freeCars wsX5_freeCars) := goodIn_app (goodIn_of _ (by decide +kernel)) ggX5_make_X5_freeCars
set_option maxRecDepth 20000 in
theorem ggX5_make_X5_lastHasRoom : GoodIn wsX5_make wsX5_lastHasRoom := goodIn_r _ [23, 2, 24, 25, 26, 14, 27, 28, 3, 29, 30, 31, 32, 33, 115, 116, 117, 118, 119, 120, 121, 122, 123, 124, 125, 126, 127, 128, 129, 130, 131, 132, 133, 134, 135, 136, 137, 138, 139, 140, 141, 142, 143, 144, 145] (by decide +kernel) (by decide +kernel)
set_option maxRecDepth 20000 in
theorem gX5_make_X5_lastHasRoom : GoodIn wsX5_make (wsV RX5 173 RX5 yX5_lastHasRoom wsX5_lastHasRoom) := goodIn_app (goodIn_of _ (by decide +kernel)) ggX5_make_X5_lastHasRoom
set_option maxRecDepth 20000 in
theorem ggX5_make_X5_maySteps : GoodIn wsX5_make wsX5_maySteps := goodIn_r _ [37, 2, 16, 17, 18, 14, 19, 3, 115, 116, 117, 118, 119, 120, 121, 122, 123, 124, 125, 126, 127, 128, 129, 130, 131, 132, 133, 134, 135, 136, 137, 138, 139, 140, 141, 142, 143, 144, 145] (by decide +kernel) (by decide +kernel)
set_option maxRecDepth 20000 in
theorem gX5_make_X5_maySteps : GoodIn wsX5_make (wsV RX5 164 RX5 yX5_maySteps wsX5_maySteps) := goodIn_app (goodIn_of _ (by decide +kernel)) ggX5_make_X5_maySteps
set_option maxRecDepth 20000 in
theorem ggX5_make_X5_oneStep : GoodIn wsX5_make wsX5_oneStep := goodIn_r _ [41, 42, 3, 28, 43, 44, 11, 2, 45, 46, 9, 47, 48, 49, 50, 51, 52, 14, 53, 5, 7, 54, 55, 56, 57, 58, 59, 60, 61, 62, 63, 33, 64, 65, 66, 67, 68, 69, 70, 71, 72, 73, 74, 75, 76, 77, 78, 79, 80, 81, 82, 83, 84, 85, 86, 87, 88, 89, 90, 91, 92, 93, 94, 95, 96, 97, 98, 99, 100, 101, 102, 103, 104, 105, 8, 106, 107, 108, 109, 24, 25, 26, 27, 29, 30, 31, 32, 110, 111, 112, 113, 114, 115, 116, 117, 118, 119, 120, 121, 122, 123, 124, 125, 126, 127, 128, 129, 130, 131, 132, 133, 134, 135, 136, 137, 138, 139, 140, 141, 142, 143, 144, 145] (by decide +kernel) (by decide +kernel)
set_option maxRecDepth 20000 in
theorem gX5_make_X5_oneStep : GoodIn wsX5_make (wsV RX5 167 RX5 yX5_oneStep wsX5_oneStep) := goodIn_app (goodIn_of _ (by decide +kernel)) ggX5_make_X5_oneStep
set_option maxRecDepth 20000 in
theorem ggX5_make_X5_newTrain : GoodIn wsX5_make wsX5_newTrain := goodIn_r _ [81, 82, 69, 2, 3, 83, 84, 85, 14, 86, 54, 55, 56, 57, 28, 87, 88, 89, 90, 33, 62, 115, 116, 117, 118, 119, 120, 121, 122, 123, 124, 125, 126, 127, 128, 129, 130, 131, 132, 133, 134, 135, 136, 137, 138, 139, 140, 141, 142, 143, 144, 145] (by decide +kernel) (by decide +kernel)
set_option maxRecDepth 20000 in
theorem gX5_make_X5_newTrain : GoodIn wsX5_make (wsV RX5 155 RX5 yX5_newTrain wsX5_newTrain) := goodIn_app (goodIn_of _ (by decide +kernel)) ggX5_make_X5_newTrain
set_option maxRecDepth 20000 in
theorem ggX5_make_X5_freeCar : GoodIn wsX5_make wsX5_freeCar := goodIn_r _ [86, 54, 55, 56, 14, 57, 2, 3, 28, 115, 116, 117, 118, 119, 120, 121, 122, 123, 124, 125, 126, 127, 128, 129, 130, 131, 132, 133, 134, 135, 136, 137, 138, 139, 140, 141, 142, 143, 144, 145] (by decide +kernel) (by decide +kernel)
set_option maxRecDepth 20000 in
theorem gX5_make_X5_freeCar : GoodIn wsX5_make (wsV RX5 85 RX5 yX5_freeCar wsX5_freeCar) := goodIn_app (goodIn_of _ (by decide +kernel)) ggX5_make_X5_freeCar
set_option maxRecDepth 20000 in
theorem ggX5_make_X5_couple : GoodIn wsX5_make wsX5_couple := goodIn_r _ [90, 28, 3, 33, 62, 115, 116, 117, 118, 119, 120, 121, 122, 123, 124, 125, 126, 127, 128, 129, 130, 131, 132, 133, 134, 135, 136, 137, 138, 139, 140, 141, 142, 143, 144, 145] (by decide +kernel) (by decide +kernel)
set_option maxRecDepth 20000 in
theorem gX5_make_X5_couple : GoodIn wsX5_make (wsV RX5 92 RX5 yX5_couple wsX5_couple) := goodIn_app (goodIn_of _ (by decide +kernel)) ggX5_make_X5_couple
set_option maxRecDepth 20000 in
theorem ggX5_make_X5_lastCar : GoodIn wsX5_make wsX5_lastCar := goodIn_r _ [27, 28, 3, 115, 116, 117, 118, 119, 120, 121, 122, 123, 124, 125, 126, 127, 128, 129, 130, 131, 132, 133, 134, 135, 136, 137, 138, 139, 140, 141, 142, 143, 144, 145] (by decide +kernel) (by decide +kernel)
set_option maxRecDepth 20000 in
theorem gX5_make_X5_lastCar : GoodIn wsX5_make (wsV RX5 99 RX5 yX5_lastCar wsX5_lastCar) := goodIn_app (goodIn_of _ (by decide +kernel)) ggX5_make_X5_lastCar
set_option maxRecDepth 20000 in
theorem ggX5_make_X5_lay : GoodIn wsX5_make wsX5_lay := goodIn_r _ [113, 49, 114, 33, 63, 62, 102, 103, 104, 14, 105, 7, 8, 115, 116, 117, 118, 119, 120, 121, 122, 123, 124, 125, 126, 127, 128, 129, 130, 131, 132, 133, 134, 135, 136, 137, 138, 139, 140, 141, 142, 143, 144, 145] (by decide +kernel) (by decide +kernel)
set_option maxRecDepth 20000 in
theorem gX5_make_X5_lay : GoodIn wsX5_make (wsV RX5 113 RX5 yX5_lay wsX5_lay) := goodIn_app (goodIn_of _ (by decide +kernel)) ggX5_make_X5_lay
theorem dX5_make_0 : decode cX5_make 0 = .ok (.aload_n 0, 1) := by decide +kernel
theorem dX5_make_1 : decode cX5_make 1 = .ok (.iload_n 1, 1) := by decide +kernel
theorem dX5_make_2 : decode cX5_make 2 = .ok (.invokestatic 170, 3) := by decide +kernel
theorem dX5_make_5 : decode cX5_make 5 = .ok (.ifCond .eq 7, 3) := by decide +kernel
theorem dX5_make_8 : decode cX5_make 8 = .ok (.iconst 1, 1) := by decide +kernel
theorem dX5_make_9 : decode cX5_make 9 = .ok (.goto 28, 3) := by decide +kernel
theorem dX5_make_12 : decode cX5_make 12 = .ok (.iload_n 2, 1) := by decide +kernel
theorem dX5_make_13 : decode cX5_make 13 = .ok (.ifCond .lt 19, 3) := by decide +kernel
theorem dX5_make_16 : decode cX5_make 16 = .ok (.iload_n 2, 1) := by decide +kernel
theorem dX5_make_17 : decode cX5_make 17 = .ok (.bipush 12, 2) := by decide +kernel
theorem dX5_make_19 : decode cX5_make 19 = .ok (.if_icmp .gt 13, 3) := by decide +kernel
theorem dX5_make_22 : decode cX5_make 22 = .ok (.iload_n 3, 1) := by decide +kernel
theorem dX5_make_23 : decode cX5_make 23 = .ok (.ifCond .lt 9, 3) := by decide +kernel
theorem dX5_make_26 : decode cX5_make 26 = .ok (.iload_n 3, 1) := by decide +kernel
theorem dX5_make_27 : decode cX5_make 27 = .ok (.bipush 12, 2) := by decide +kernel
theorem dX5_make_29 : decode cX5_make 29 = .ok (.if_icmp .le 7, 3) := by decide +kernel
theorem dX5_make_32 : decode cX5_make 32 = .ok (.iconst 2, 1) := by decide +kernel
theorem dX5_make_33 : decode cX5_make 33 = .ok (.goto 4, 3) := by decide +kernel
theorem dX5_make_36 : decode cX5_make 36 = .ok (.iconst 0, 1) := by decide +kernel
theorem dX5_make_37 : decode cX5_make 37 = .ok (.putfield 75, 3) := by decide +kernel
theorem dX5_make_40 : decode cX5_make 40 = .ok (.aload_n 0, 1) := by decide +kernel
theorem dX5_make_41 : decode cX5_make 41 = .ok (.getfield 75, 3) := by decide +kernel
theorem dX5_make_44 : decode cX5_make 44 = .ok (.ifCond .le 5, 3) := by decide +kernel
theorem dX5_make_47 : decode cX5_make 47 = .ok (.iconst 0, 1) := by decide +kernel
theorem dX5_make_48 : decode cX5_make 48 = .ok (.ireturn, 1) := by decide +kernel
theorem dX5_make_49 : decode cX5_make 49 = .ok (.iconst 2, 1) := by decide +kernel
theorem dX5_make_50 : decode cX5_make 50 = .ok (.iload_n 2, 1) := by decide +kernel
theorem dX5_make_51 : decode cX5_make 51 = .ok (.iadd, 1) := by decide +kernel
theorem dX5_make_52 : decode cX5_make 52 = .ok (.iload_n 3, 1) := by decide +kernel
theorem dX5_make_53 : decode cX5_make 53 = .ok (.iadd, 1) := by decide +kernel
theorem dX5_make_54 : decode cX5_make 54 = .ok (.istore 4, 2) := by decide +kernel
theorem dX5_make_56 : decode cX5_make 56 = .ok (.bipush 40, 2) := by decide +kernel
theorem dX5_make_58 : decode cX5_make 58 = .ok (.aload_n 0, 1) := by decide +kernel
theorem dX5_make_59 : decode cX5_make 59 = .ok (.invokevirtual 161, 3) := by decide +kernel
theorem dX5_make_62 : decode cX5_make 62 = .ok (.isub, 1) := by decide +kernel
theorem dX5_make_63 : decode cX5_make 63 = .ok (.istore 5, 2) := by decide +kernel
theorem dX5_make_65 : decode cX5_make 65 = .ok (.iconst 0, 1) := by decide +kernel
theorem dX5_make_66 : decode cX5_make 66 = .ok (.istore 6, 2) := by decide +kernel
theorem dX5_make_68 : decode cX5_make 68 = .ok (.iload 6, 2) := by decide +kernel
theorem dX5_make_70 : decode cX5_make 70 = .ok (.iload 5, 2) := by decide +kernel
theorem dX5_make_72 : decode cX5_make 72 = .ok (.if_icmp .ge 39, 3) := by decide +kernel
theorem dX5_make_75 : decode cX5_make 75 = .ok (.aload_n 0, 1) := by decide +kernel
theorem dX5_make_76 : decode cX5_make 76 = .ok (.iload 4, 2) := by decide +kernel
theorem dX5_make_78 : decode cX5_make 78 = .ok (.invokevirtual 173, 3) := by decide +kernel
theorem dX5_make_81 : decode cX5_make 81 = .ok (.ifCond .ne 30, 3) := by decide +kernel
theorem dX5_make_84 : decode cX5_make 84 = .ok (.aload_n 0, 1) := by decide +kernel
theorem dX5_make_85 : decode cX5_make 85 = .ok (.invokevirtual 161, 3) := by decide +kernel
theorem dX5_make_88 : decode cX5_make 88 = .ok (.iconst 2, 1) := by decide +kernel
theorem dX5_make_89 : decode cX5_make 89 = .ok (.if_icmp .ge 22, 3) := by decide +kernel
theorem dX5_make_92 : decode cX5_make 92 = .ok (.aload_n 0, 1) := by decide +kernel
theorem dX5_make_93 : decode cX5_make 93 = .ok (.invokevirtual 164, 3) := by decide +kernel
theorem dX5_make_96 : decode cX5_make 96 = .ok (.ifCond .eq 15, 3) := by decide +kernel
theorem dX5_make_99 : decode cX5_make 99 = .ok (.aload_n 0, 1) := by decide +kernel
theorem dX5_make_100 : decode cX5_make 100 = .ok (.invokevirtual 167, 3) := by decide +kernel
theorem dX5_make_103 : decode cX5_make 103 = .ok (.istore 7, 2) := by decide +kernel
theorem dX5_make_105 : decode cX5_make 105 = .ok (.iinc 6 1, 3) := by decide +kernel
theorem dX5_make_108 : decode cX5_make 108 = .ok (.goto (-40), 3) := by decide +kernel
theorem dX5_make_111 : decode cX5_make 111 = .ok (.aload_n 0, 1) := by decide +kernel
theorem dX5_make_112 : decode cX5_make 112 = .ok (.iload 4, 2) := by decide +kernel
theorem dX5_make_114 : decode cX5_make 114 = .ok (.invokevirtual 173, 3) := by decide +kernel
theorem dX5_make_117 : decode cX5_make 117 = .ok (.istore 6, 2) := by decide +kernel
theorem dX5_make_119 : decode cX5_make 119 = .ok (.iload 6, 2) := by decide +kernel
theorem dX5_make_121 : decode cX5_make 121 = .ok (.ifCond .ne 13, 3) := by decide +kernel
theorem dX5_make_124 : decode cX5_make 124 = .ok (.aload_n 0, 1) := by decide +kernel
theorem dX5_make_125 : decode cX5_make 125 = .ok (.invokevirtual 161, 3) := by decide +kernel
theorem dX5_make_128 : decode cX5_make 128 = .ok (.iconst 2, 1) := by decide +kernel
theorem dX5_make_129 : decode cX5_make 129 = .ok (.if_icmp .ge 5, 3) := by decide +kernel
theorem dX5_make_132 : decode cX5_make 132 = .ok (.iconst (-1), 1) := by decide +kernel
theorem dX5_make_133 : decode cX5_make 133 = .ok (.ireturn, 1) := by decide +kernel
theorem dX5_make_134 : decode cX5_make 134 = .ok (.iload 6, 2) := by decide +kernel
theorem dX5_make_136 : decode cX5_make 136 = .ok (.ifCond .ne 49, 3) := by decide +kernel
theorem dX5_make_139 : decode cX5_make 139 = .ok (.aload_n 0, 1) := by decide +kernel
theorem dX5_make_140 : decode cX5_make 140 = .ok (.getfield 78, 3) := by decide +kernel
theorem dX5_make_143 : decode cX5_make 143 = .ok (.ifCond .eq 21, 3) := by decide +kernel
theorem dX5_make_146 : decode cX5_make 146 = .ok (.aload_n 0, 1) := by decide +kernel
theorem dX5_make_147 : decode cX5_make 147 = .ok (.getfield 43, 3) := by decide +kernel
theorem dX5_make_150 : decode cX5_make 150 = .ok (.aload_n 0, 1) := by decide +kernel
theorem dX5_make_151 : decode cX5_make 151 = .ok (.getfield 78, 3) := by decide +kernel
theorem dX5_make_154 : decode cX5_make 154 = .ok (.iconst 1, 1) := by decide +kernel
theorem dX5_make_155 : decode cX5_make 155 = .ok (.isub, 1) := by decide +kernel
theorem dX5_make_156 : decode cX5_make 156 = .ok (.iaload, 1) := by decide +kernel
theorem dX5_make_157 : decode cX5_make 157 = .ok (.aload_n 0, 1) := by decide +kernel
theorem dX5_make_158 : decode cX5_make 158 = .ok (.getfield 52, 3) := by decide +kernel
theorem dX5_make_161 : decode cX5_make 161 = .ok (.if_icmp .lt 10, 3) := by decide +kernel
theorem dX5_make_164 : decode cX5_make 164 = .ok (.aload_n 0, 1) := by decide +kernel
theorem dX5_make_165 : decode cX5_make 165 = .ok (.invokevirtual 155, 3) := by decide +kernel
theorem dX5_make_168 : decode cX5_make 168 = .ok (.goto 17, 3) := by decide +kernel
theorem dX5_make_171 : decode cX5_make 171 = .ok (.aload_n 0, 1) := by decide +kernel
theorem dX5_make_172 : decode cX5_make 172 = .ok (.aload_n 0, 1) := by decide +kernel
theorem dX5_make_173 : decode cX5_make 173 = .ok (.getfield 78, 3) := by decide +kernel
