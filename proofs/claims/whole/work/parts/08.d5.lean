theorem dX5_make_176 : decode cX5_make 176 = .ok (.iconst 1, 1) := by decide +kernel
theorem dX5_make_177 : decode cX5_make 177 = .ok (.isub, 1) := by decide +kernel
theorem dX5_make_178 : decode cX5_make 178 = .ok (.aload_n 0, 1) := by decide +kernel
theorem dX5_make_179 : decode cX5_make 179 = .ok (.invokevirtual 85, 3) := by decide +kernel
theorem dX5_make_182 : decode cX5_make 182 = .ok (.invokevirtual 92, 3) := by decide +kernel
theorem dX5_make_185 : decode cX5_make 185 = .ok (.iconst 0, 1) := by decide +kernel
theorem dX5_make_186 : decode cX5_make 186 = .ok (.istore 7, 2) := by decide +kernel
theorem dX5_make_188 : decode cX5_make 188 = .ok (.aload_n 0, 1) := by decide +kernel
theorem dX5_make_189 : decode cX5_make 189 = .ok (.getfield 7, 3) := by decide +kernel
theorem dX5_make_192 : decode cX5_make 192 = .ok (.iload 7, 2) := by decide +kernel
theorem dX5_make_194 : decode cX5_make 194 = .ok (.iaload, 1) := by decide +kernel
theorem dX5_make_195 : decode cX5_make 195 = .ok (.ifCond .le 9, 3) := by decide +kernel
theorem dX5_make_198 : decode cX5_make 198 = .ok (.iinc 7 1, 3) := by decide +kernel
theorem dX5_make_201 : decode cX5_make 201 = .ok (.goto (-13), 3) := by decide +kernel
theorem dX5_make_204 : decode cX5_make 204 = .ok (.aload_n 0, 1) := by decide +kernel
theorem dX5_make_205 : decode cX5_make 205 = .ok (.dup, 1) := by decide +kernel
theorem dX5_make_206 : decode cX5_make 206 = .ok (.getfield 176, 3) := by decide +kernel
theorem dX5_make_209 : decode cX5_make 209 = .ok (.iconst 1, 1) := by decide +kernel
theorem dX5_make_210 : decode cX5_make 210 = .ok (.iadd, 1) := by decide +kernel
theorem dX5_make_211 : decode cX5_make 211 = .ok (.putfield 176, 3) := by decide +kernel
theorem dX5_make_214 : decode cX5_make 214 = .ok (.aload_n 0, 1) := by decide +kernel
theorem dX5_make_215 : decode cX5_make 215 = .ok (.getfield 7, 3) := by decide +kernel
theorem dX5_make_218 : decode cX5_make 218 = .ok (.iload 7, 2) := by decide +kernel
theorem dX5_make_220 : decode cX5_make 220 = .ok (.aload_n 0, 1) := by decide +kernel
theorem dX5_make_221 : decode cX5_make 221 = .ok (.getfield 176, 3) := by decide +kernel
theorem dX5_make_224 : decode cX5_make 224 = .ok (.iastore, 1) := by decide +kernel
theorem dX5_make_225 : decode cX5_make 225 = .ok (.aload_n 0, 1) := by decide +kernel
theorem dX5_make_226 : decode cX5_make 226 = .ok (.getfield 19, 3) := by decide +kernel
theorem dX5_make_229 : decode cX5_make 229 = .ok (.iload 7, 2) := by decide +kernel
theorem dX5_make_231 : decode cX5_make 231 = .ok (.iload_n 2, 1) := by decide +kernel
theorem dX5_make_232 : decode cX5_make 232 = .ok (.iastore, 1) := by decide +kernel
theorem dX5_make_233 : decode cX5_make 233 = .ok (.aload_n 0, 1) := by decide +kernel
theorem dX5_make_234 : decode cX5_make 234 = .ok (.getfield 22, 3) := by decide +kernel
theorem dX5_make_237 : decode cX5_make 237 = .ok (.iload 7, 2) := by decide +kernel
theorem dX5_make_239 : decode cX5_make 239 = .ok (.iload_n 3, 1) := by decide +kernel
theorem dX5_make_240 : decode cX5_make 240 = .ok (.iastore, 1) := by decide +kernel
theorem dX5_make_241 : decode cX5_make 241 = .ok (.iconst 0, 1) := by decide +kernel
theorem dX5_make_242 : decode cX5_make 242 = .ok (.istore 8, 2) := by decide +kernel
theorem dX5_make_244 : decode cX5_make 244 = .ok (.iload 8, 2) := by decide +kernel
theorem dX5_make_246 : decode cX5_make 246 = .ok (.bipush 12, 2) := by decide +kernel
theorem dX5_make_248 : decode cX5_make 248 = .ok (.if_icmp .ge 37, 3) := by decide +kernel
theorem dX5_make_251 : decode cX5_make 251 = .ok (.aload_n 0, 1) := by decide +kernel
theorem dX5_make_252 : decode cX5_make 252 = .ok (.getfield 25, 3) := by decide +kernel
theorem dX5_make_255 : decode cX5_make 255 = .ok (.bipush 12, 2) := by decide +kernel
theorem dX5_make_257 : decode cX5_make 257 = .ok (.iload 7, 2) := by decide +kernel
theorem dX5_make_259 : decode cX5_make 259 = .ok (.imul, 1) := by decide +kernel
theorem dX5_make_260 : decode cX5_make 260 = .ok (.iload 8, 2) := by decide +kernel
theorem dX5_make_262 : decode cX5_make 262 = .ok (.iadd, 1) := by decide +kernel
theorem dX5_make_263 : decode cX5_make 263 = .ok (.iconst (-1), 1) := by decide +kernel
theorem dX5_make_264 : decode cX5_make 264 = .ok (.iastore, 1) := by decide +kernel
theorem dX5_make_265 : decode cX5_make 265 = .ok (.aload_n 0, 1) := by decide +kernel
theorem dX5_make_266 : decode cX5_make 266 = .ok (.getfield 28, 3) := by decide +kernel
theorem dX5_make_269 : decode cX5_make 269 = .ok (.bipush 12, 2) := by decide +kernel
theorem dX5_make_271 : decode cX5_make 271 = .ok (.iload 7, 2) := by decide +kernel
theorem dX5_make_273 : decode cX5_make 273 = .ok (.imul, 1) := by decide +kernel
theorem dX5_make_274 : decode cX5_make 274 = .ok (.iload 8, 2) := by decide +kernel
theorem dX5_make_276 : decode cX5_make 276 = .ok (.iadd, 1) := by decide +kernel
theorem dX5_make_277 : decode cX5_make 277 = .ok (.iconst 0, 1) := by decide +kernel
theorem dX5_make_278 : decode cX5_make 278 = .ok (.iastore, 1) := by decide +kernel
theorem dX5_make_279 : decode cX5_make 279 = .ok (.iinc 8 1, 3) := by decide +kernel
theorem dX5_make_282 : decode cX5_make 282 = .ok (.goto (-38), 3) := by decide +kernel
theorem dX5_make_285 : decode cX5_make 285 = .ok (.aload_n 0, 1) := by decide +kernel
theorem dX5_make_286 : decode cX5_make 286 = .ok (.iload 7, 2) := by decide +kernel
theorem dX5_make_288 : decode cX5_make 288 = .ok (.aload_n 0, 1) := by decide +kernel
theorem dX5_make_289 : decode cX5_make 289 = .ok (.aload_n 0, 1) := by decide +kernel
theorem dX5_make_290 : decode cX5_make 290 = .ok (.getfield 78, 3) := by decide +kernel
theorem dX5_make_293 : decode cX5_make 293 = .ok (.iconst 1, 1) := by decide +kernel
theorem dX5_make_294 : decode cX5_make 294 = .ok (.isub, 1) := by decide +kernel
theorem dX5_make_295 : decode cX5_make 295 = .ok (.invokevirtual 99, 3) := by decide +kernel
theorem dX5_make_298 : decode cX5_make 298 = .ok (.invokevirtual 113, 3) := by decide +kernel
theorem dX5_make_301 : decode cX5_make 301 = .ok (.aload_n 0, 1) := by decide +kernel
theorem dX5_make_302 : decode cX5_make 302 = .ok (.getfield 49, 3) := by decide +kernel
theorem dX5_make_305 : decode cX5_make 305 = .ok (.iload_n 1, 1) := by decide +kernel
theorem dX5_make_306 : decode cX5_make 306 = .ok (.iload 7, 2) := by decide +kernel
theorem dX5_make_308 : decode cX5_make 308 = .ok (.iastore, 1) := by decide +kernel
theorem dX5_make_309 : decode cX5_make 309 = .ok (.aload_n 0, 1) := by decide +kernel
theorem dX5_make_310 : decode cX5_make 310 = .ok (.getfield 176, 3) := by decide +kernel
theorem dX5_make_313 : decode cX5_make 313 = .ok (.ireturn, 1) := by decide +kernel
theorem dX5_labelOf_0 : decode cX5_labelOf 0 = .ok (.iload_n 1, 1) := by decide +kernel
theorem dX5_labelOf_1 : decode cX5_labelOf 1 = .ok (.ifCond .ge 7, 3) := by decide +kernel
theorem dX5_labelOf_4 : decode cX5_labelOf 4 = .ok (.iconst 0, 1) := by decide +kernel
theorem dX5_labelOf_5 : decode cX5_labelOf 5 = .ok (.goto 9, 3) := by decide +kernel
theorem dX5_labelOf_8 : decode cX5_labelOf 8 = .ok (.aload_n 0, 1) := by decide +kernel
theorem dX5_labelOf_9 : decode cX5_labelOf 9 = .ok (.getfield 7, 3) := by decide +kernel
theorem dX5_labelOf_12 : decode cX5_labelOf 12 = .ok (.iload_n 1, 1) := by decide +kernel
theorem dX5_labelOf_13 : decode cX5_labelOf 13 = .ok (.iaload, 1) := by decide +kernel
theorem dX5_labelOf_14 : decode cX5_labelOf 14 = .ok (.ireturn, 1) := by decide +kernel
set_option maxRecDepth 20000 in
theorem ggX5_copy_X5_noRegister : GoodIn wsX5_copy wsX5_noRegister := goodIn_r _ [6] (by decide +kernel) (by decide +kernel)
set_option maxRecDepth 20000 in
theorem gX5_copy_X5_noRegister : GoodIn wsX5_copy (va_wsS RX5 170 yX5_noRegister wsX5_noRegister) := goodIn_app (goodIn_of _ (by decide +kernel)) ggX5_copy_X5_noRegister
set_option maxRecDepth 20000 in
theorem ggX5_copy_X5_labelOf : GoodIn wsX5_copy wsX5_labelOf := goodIn_r _ [10, 11, 12, 13, 14, 15, 16, 17, 18, 19, 20, 21, 22, 23, 24, 25, 26, 27, 28, 29, 30, 31, 32, 33, 34, 35, 36, 37, 38, 39, 40, 41, 42] (by decide +kernel) (by decide +kernel)
set_option maxRecDepth 20000 in
theorem gX5_copy_X5_labelOf : GoodIn wsX5_copy (wsV RX5 179 RX5 yX5_labelOf wsX5_labelOf) := goodIn_app (goodIn_of _ (by decide +kernel)) ggX5_copy_X5_labelOf
theorem dX5_copy_0 : decode cX5_copy 0 = .ok (.aload_n 0, 1) := by decide +kernel
theorem dX5_copy_1 : decode cX5_copy 1 = .ok (.iload_n 1, 1) := by decide +kernel
theorem dX5_copy_2 : decode cX5_copy 2 = .ok (.invokestatic 170, 3) := by decide +kernel
theorem dX5_copy_5 : decode cX5_copy 5 = .ok (.ifCond .ne 10, 3) := by decide +kernel
theorem dX5_copy_8 : decode cX5_copy 8 = .ok (.iload_n 2, 1) := by decide +kernel
theorem dX5_copy_9 : decode cX5_copy 9 = .ok (.invokestatic 170, 3) := by decide +kernel
theorem dX5_copy_12 : decode cX5_copy 12 = .ok (.ifCond .eq 7, 3) := by decide +kernel
theorem dX5_copy_15 : decode cX5_copy 15 = .ok (.iconst 1, 1) := by decide +kernel
theorem dX5_copy_16 : decode cX5_copy 16 = .ok (.goto 4, 3) := by decide +kernel
theorem dX5_copy_19 : decode cX5_copy 19 = .ok (.iconst 0, 1) := by decide +kernel
theorem dX5_copy_20 : decode cX5_copy 20 = .ok (.putfield 75, 3) := by decide +kernel
theorem dX5_copy_23 : decode cX5_copy 23 = .ok (.aload_n 0, 1) := by decide +kernel
theorem dX5_copy_24 : decode cX5_copy 24 = .ok (.getfield 75, 3) := by decide +kernel
theorem dX5_copy_27 : decode cX5_copy 27 = .ok (.ifCond .le 5, 3) := by decide +kernel
theorem dX5_copy_30 : decode cX5_copy 30 = .ok (.iconst 0, 1) := by decide +kernel
theorem dX5_copy_31 : decode cX5_copy 31 = .ok (.ireturn, 1) := by decide +kernel
theorem dX5_copy_32 : decode cX5_copy 32 = .ok (.aload_n 0, 1) := by decide +kernel
theorem dX5_copy_33 : decode cX5_copy 33 = .ok (.getfield 49, 3) := by decide +kernel
theorem dX5_copy_36 : decode cX5_copy 36 = .ok (.iload_n 1, 1) := by decide +kernel
theorem dX5_copy_37 : decode cX5_copy 37 = .ok (.aload_n 0, 1) := by decide +kernel
theorem dX5_copy_38 : decode cX5_copy 38 = .ok (.getfield 49, 3) := by decide +kernel
theorem dX5_copy_41 : decode cX5_copy 41 = .ok (.iload_n 2, 1) := by decide +kernel
theorem dX5_copy_42 : decode cX5_copy 42 = .ok (.iaload, 1) := by decide +kernel
theorem dX5_copy_43 : decode cX5_copy 43 = .ok (.iastore, 1) := by decide +kernel
theorem dX5_copy_44 : decode cX5_copy 44 = .ok (.aload_n 0, 1) := by decide +kernel
theorem dX5_copy_45 : decode cX5_copy 45 = .ok (.aload_n 0, 1) := by decide +kernel
theorem dX5_copy_46 : decode cX5_copy 46 = .ok (.getfield 49, 3) := by decide +kernel
theorem dX5_copy_49 : decode cX5_copy 49 = .ok (.iload_n 1, 1) := by decide +kernel
theorem dX5_copy_50 : decode cX5_copy 50 = .ok (.iaload, 1) := by decide +kernel
theorem dX5_copy_51 : decode cX5_copy 51 = .ok (.invokevirtual 179, 3) := by decide +kernel
theorem dX5_copy_54 : decode cX5_copy 54 = .ok (.ireturn, 1) := by decide +kernel
set_option maxRecDepth 20000 in
theorem ggX5_drop_X5_noRegister : GoodIn wsX5_drop wsX5_noRegister := goodIn_r _ [6] (by decide +kernel) (by decide +kernel)
set_option maxRecDepth 20000 in
theorem gX5_drop_X5_noRegister : GoodIn wsX5_drop (va_wsS RX5 170 yX5_noRegister wsX5_noRegister) := goodIn_app (goodIn_of _ (by decide +kernel)) ggX5_drop_X5_noRegister
set_option maxRecDepth 20000 in
theorem ggX5_drop_X5_labelOf : GoodIn wsX5_drop wsX5_labelOf := goodIn_r _ [10, 11, 12, 13, 14, 15, 16, 17, 18, 19, 20, 21, 22, 23, 24, 25, 26, 27, 28, 29, 30, 31, 32, 33, 34, 35, 36, 37, 38, 39, 40, 41, 42] (by decide +kernel) (by decide +kernel)
set_option maxRecDepth 20000 in
theorem gX5_drop_X5_labelOf : GoodIn wsX5_drop (wsV RX5 179 RX5 yX5_labelOf wsX5_labelOf) := goodIn_app (goodIn_of _ (by decide +kernel)) ggX5_drop_X5_labelOf
theorem dX5_drop_0 : decode cX5_drop 0 = .ok (.aload_n 0, 1) := by decide +kernel
theorem dX5_drop_1 : decode cX5_drop 1 = .ok (.iload_n 1, 1) := by decide +kernel
theorem dX5_drop_2 : decode cX5_drop 2 = .ok (.invokestatic 170, 3) := by decide +kernel
theorem dX5_drop_5 : decode cX5_drop 5 = .ok (.ifCond .eq 7, 3) := by decide +kernel
theorem dX5_drop_8 : decode cX5_drop 8 = .ok (.iconst 1, 1) := by decide +kernel
theorem dX5_drop_9 : decode cX5_drop 9 = .ok (.goto 4, 3) := by decide +kernel
theorem dX5_drop_12 : decode cX5_drop 12 = .ok (.iconst 0, 1) := by decide +kernel
theorem dX5_drop_13 : decode cX5_drop 13 = .ok (.putfield 75, 3) := by decide +kernel
theorem dX5_drop_16 : decode cX5_drop 16 = .ok (.aload_n 0, 1) := by decide +kernel
theorem dX5_drop_17 : decode cX5_drop 17 = .ok (.getfield 75, 3) := by decide +kernel
theorem dX5_drop_20 : decode cX5_drop 20 = .ok (.ifCond .le 5, 3) := by decide +kernel
theorem dX5_drop_23 : decode cX5_drop 23 = .ok (.iconst 0, 1) := by decide +kernel
theorem dX5_drop_24 : decode cX5_drop 24 = .ok (.ireturn, 1) := by decide +kernel
theorem dX5_drop_25 : decode cX5_drop 25 = .ok (.aload_n 0, 1) := by decide +kernel
theorem dX5_drop_26 : decode cX5_drop 26 = .ok (.aload_n 0, 1) := by decide +kernel
theorem dX5_drop_27 : decode cX5_drop 27 = .ok (.getfield 49, 3) := by decide +kernel
theorem dX5_drop_30 : decode cX5_drop 30 = .ok (.iload_n 1, 1) := by decide +kernel
theorem dX5_drop_31 : decode cX5_drop 31 = .ok (.iaload, 1) := by decide +kernel
theorem dX5_drop_32 : decode cX5_drop 32 = .ok (.invokevirtual 179, 3) := by decide +kernel
theorem dX5_drop_35 : decode cX5_drop 35 = .ok (.istore_n 2, 1) := by decide +kernel
theorem dX5_drop_36 : decode cX5_drop 36 = .ok (.aload_n 0, 1) := by decide +kernel
theorem dX5_drop_37 : decode cX5_drop 37 = .ok (.getfield 49, 3) := by decide +kernel
theorem dX5_drop_40 : decode cX5_drop 40 = .ok (.iload_n 1, 1) := by decide +kernel
theorem dX5_drop_41 : decode cX5_drop 41 = .ok (.iconst (-1), 1) := by decide +kernel
theorem dX5_drop_42 : decode cX5_drop 42 = .ok (.iastore, 1) := by decide +kernel
theorem dX5_drop_43 : decode cX5_drop 43 = .ok (.iload_n 2, 1) := by decide +kernel
theorem dX5_drop_44 : decode cX5_drop 44 = .ok (.ireturn, 1) := by decide +kernel
set_option maxRecDepth 20000 in
theorem ggX5_set_X5_noRegister : GoodIn wsX5_set wsX5_noRegister := goodIn_r _ [8] (by decide +kernel) (by decide +kernel)
set_option maxRecDepth 20000 in
theorem gX5_set_X5_noRegister : GoodIn wsX5_set (va_wsS RX5 170 yX5_noRegister wsX5_noRegister) := goodIn_app (goodIn_of _ (by decide +kernel)) ggX5_set_X5_noRegister
set_option maxRecDepth 20000 in
theorem ggX5_set_X5_labelOf : GoodIn wsX5_set wsX5_labelOf := goodIn_r _ [12, 13, 14, 15, 16, 17, 18, 19, 20, 21, 22, 23, 24, 25, 26, 27, 28, 29, 30, 31, 32, 33, 34, 35, 36, 37, 38, 39, 40, 41, 42, 43, 44] (by decide +kernel) (by decide +kernel)
set_option maxRecDepth 20000 in
theorem gX5_set_X5_labelOf : GoodIn wsX5_set (wsV RX5 179 RX5 yX5_labelOf wsX5_labelOf) := goodIn_app (goodIn_of _ (by decide +kernel)) ggX5_set_X5_labelOf
theorem dX5_set_0 : decode cX5_set 0 = .ok (.aload_n 0, 1) := by decide +kernel
theorem dX5_set_1 : decode cX5_set 1 = .ok (.iload_n 1, 1) := by decide +kernel
theorem dX5_set_2 : decode cX5_set 2 = .ok (.invokestatic 170, 3) := by decide +kernel
theorem dX5_set_5 : decode cX5_set 5 = .ok (.ifCond .ne 10, 3) := by decide +kernel
theorem dX5_set_8 : decode cX5_set 8 = .ok (.iload_n 3, 1) := by decide +kernel
theorem dX5_set_9 : decode cX5_set 9 = .ok (.invokestatic 170, 3) := by decide +kernel
theorem dX5_set_12 : decode cX5_set 12 = .ok (.ifCond .eq 7, 3) := by decide +kernel
theorem dX5_set_15 : decode cX5_set 15 = .ok (.iconst 1, 1) := by decide +kernel
theorem dX5_set_16 : decode cX5_set 16 = .ok (.goto 40, 3) := by decide +kernel
theorem dX5_set_19 : decode cX5_set 19 = .ok (.aload_n 0, 1) := by decide +kernel
theorem dX5_set_20 : decode cX5_set 20 = .ok (.getfield 49, 3) := by decide +kernel
theorem dX5_set_23 : decode cX5_set 23 = .ok (.iload_n 1, 1) := by decide +kernel
theorem dX5_set_24 : decode cX5_set 24 = .ok (.iaload, 1) := by decide +kernel
theorem dX5_set_25 : decode cX5_set 25 = .ok (.ifCond .ge 7, 3) := by decide +kernel
theorem dX5_set_28 : decode cX5_set 28 = .ok (.iconst 2, 1) := by decide +kernel
theorem dX5_set_29 : decode cX5_set 29 = .ok (.goto 27, 3) := by decide +kernel
theorem dX5_set_32 : decode cX5_set 32 = .ok (.iload_n 2, 1) := by decide +kernel
theorem dX5_set_33 : decode cX5_set 33 = .ok (.ifCond .lt 18, 3) := by decide +kernel
theorem dX5_set_36 : decode cX5_set 36 = .ok (.iload_n 2, 1) := by decide +kernel
theorem dX5_set_37 : decode cX5_set 37 = .ok (.aload_n 0, 1) := by decide +kernel
theorem dX5_set_38 : decode cX5_set 38 = .ok (.getfield 19, 3) := by decide +kernel
theorem dX5_set_41 : decode cX5_set 41 = .ok (.aload_n 0, 1) := by decide +kernel
theorem dX5_set_42 : decode cX5_set 42 = .ok (.getfield 49, 3) := by decide +kernel
theorem dX5_set_45 : decode cX5_set 45 = .ok (.iload_n 1, 1) := by decide +kernel
theorem dX5_set_46 : decode cX5_set 46 = .ok (.iaload, 1) := by decide +kernel
theorem dX5_set_47 : decode cX5_set 47 = .ok (.iaload, 1) := by decide +kernel
theorem dX5_set_48 : decode cX5_set 48 = .ok (.if_icmp .lt 7, 3) := by decide +kernel
theorem dX5_set_51 : decode cX5_set 51 = .ok (.iconst 3, 1) := by decide +kernel
theorem dX5_set_52 : decode cX5_set 52 = .ok (.goto 4, 3) := by decide +kernel
theorem dX5_set_55 : decode cX5_set 55 = .ok (.iconst 0, 1) := by decide +kernel
theorem dX5_set_56 : decode cX5_set 56 = .ok (.putfield 75, 3) := by decide +kernel
theorem dX5_set_59 : decode cX5_set 59 = .ok (.aload_n 0, 1) := by decide +kernel
theorem dX5_set_60 : decode cX5_set 60 = .ok (.getfield 75, 3) := by decide +kernel
theorem dX5_set_63 : decode cX5_set 63 = .ok (.ifCond .le 5, 3) := by decide +kernel
theorem dX5_set_66 : decode cX5_set 66 = .ok (.iconst 0, 1) := by decide +kernel
theorem dX5_set_67 : decode cX5_set 67 = .ok (.ireturn, 1) := by decide +kernel
theorem dX5_set_68 : decode cX5_set 68 = .ok (.bipush 12, 2) := by decide +kernel
theorem dX5_set_70 : decode cX5_set 70 = .ok (.aload_n 0, 1) := by decide +kernel
theorem dX5_set_71 : decode cX5_set 71 = .ok (.getfield 49, 3) := by decide +kernel
theorem dX5_set_74 : decode cX5_set 74 = .ok (.iload_n 1, 1) := by decide +kernel
theorem dX5_set_75 : decode cX5_set 75 = .ok (.iaload, 1) := by decide +kernel
theorem dX5_set_76 : decode cX5_set 76 = .ok (.imul, 1) := by decide +kernel
theorem dX5_set_77 : decode cX5_set 77 = .ok (.iload_n 2, 1) := by decide +kernel
theorem dX5_set_78 : decode cX5_set 78 = .ok (.iadd, 1) := by decide +kernel
theorem dX5_set_79 : decode cX5_set 79 = .ok (.istore 4, 2) := by decide +kernel
theorem dX5_set_81 : decode cX5_set 81 = .ok (.aload_n 0, 1) := by decide +kernel
theorem dX5_set_82 : decode cX5_set 82 = .ok (.aload_n 0, 1) := by decide +kernel
theorem dX5_set_83 : decode cX5_set 83 = .ok (.getfield 25, 3) := by decide +kernel
theorem dX5_set_86 : decode cX5_set 86 = .ok (.iload 4, 2) := by decide +kernel
theorem dX5_set_88 : decode cX5_set 88 = .ok (.iaload, 1) := by decide +kernel
theorem dX5_set_89 : decode cX5_set 89 = .ok (.invokevirtual 179, 3) := by decide +kernel
theorem dX5_set_92 : decode cX5_set 92 = .ok (.istore 5, 2) := by decide +kernel
theorem dX5_set_94 : decode cX5_set 94 = .ok (.aload_n 0, 1) := by decide +kernel
theorem dX5_set_95 : decode cX5_set 95 = .ok (.getfield 25, 3) := by decide +kernel
theorem dX5_set_98 : decode cX5_set 98 = .ok (.iload 4, 2) := by decide +kernel
theorem dX5_set_100 : decode cX5_set 100 = .ok (.aload_n 0, 1) := by decide +kernel
theorem dX5_set_101 : decode cX5_set 101 = .ok (.getfield 49, 3) := by decide +kernel
theorem dX5_set_104 : decode cX5_set 104 = .ok (.iload_n 3, 1) := by decide +kernel
theorem dX5_set_105 : decode cX5_set 105 = .ok (.iaload, 1) := by decide +kernel
theorem dX5_set_106 : decode cX5_set 106 = .ok (.iastore, 1) := by decide +kernel
theorem dX5_set_107 : decode cX5_set 107 = .ok (.iload 5, 2) := by decide +kernel
theorem dX5_set_109 : decode cX5_set 109 = .ok (.ireturn, 1) := by decide +kernel
set_option maxRecDepth 20000 in
theorem ggX5_get_X5_noRegister : GoodIn wsX5_get wsX5_noRegister := goodIn_r _ [8] (by decide +kernel) (by decide +kernel)
set_option maxRecDepth 20000 in
theorem gX5_get_X5_noRegister : GoodIn wsX5_get (va_wsS RX5 170 yX5_noRegister wsX5_noRegister) := goodIn_app (goodIn_of _ (by decide +kernel)) ggX5_get_X5_noRegister
set_option maxRecDepth 20000 in
theorem ggX5_get_X5_labelOf : GoodIn wsX5_get wsX5_labelOf := goodIn_r _ [12, 13, 14, 15, 16, 17, 18, 19, 20, 21, 22, 23, 24, 25, 26, 27, 28, 29, 30, 31, 32, 33, 34, 35, 36, 37, 38, 39, 40, 41, 42, 43, 44] (by decide +kernel) (by decide +kernel)
set_option maxRecDepth 20000 in
theorem gX5_get_X5_labelOf : GoodIn wsX5_get (wsV RX5 179 RX5 yX5_labelOf wsX5_labelOf) := goodIn_app (goodIn_of _ (by decide +kernel)) ggX5_get_X5_labelOf
theorem dX5_get_0 : decode cX5_get 0 = .ok (.aload_n 0, 1) := by decide +kernel
theorem dX5_get_1 : decode cX5_get 1 = .ok (.iload_n 1, 1) := by decide +kernel
theorem dX5_get_2 : decode cX5_get 2 = .ok (.invokestatic 170, 3) := by decide +kernel
theorem dX5_get_5 : decode cX5_get 5 = .ok (.ifCond .ne 10, 3) := by decide +kernel
theorem dX5_get_8 : decode cX5_get 8 = .ok (.iload_n 2, 1) := by decide +kernel
theorem dX5_get_9 : decode cX5_get 9 = .ok (.invokestatic 170, 3) := by decide +kernel
theorem dX5_get_12 : decode cX5_get 12 = .ok (.ifCond .eq 7, 3) := by decide +kernel
theorem dX5_get_15 : decode cX5_get 15 = .ok (.iconst 1, 1) := by decide +kernel
theorem dX5_get_16 : decode cX5_get 16 = .ok (.goto 40, 3) := by decide +kernel
theorem dX5_get_19 : decode cX5_get 19 = .ok (.aload_n 0, 1) := by decide +kernel
theorem dX5_get_20 : decode cX5_get 20 = .ok (.getfield 49, 3) := by decide +kernel
theorem dX5_get_23 : decode cX5_get 23 = .ok (.iload_n 2, 1) := by decide +kernel
theorem dX5_get_24 : decode cX5_get 24 = .ok (.iaload, 1) := by decide +kernel
theorem dX5_get_25 : decode cX5_get 25 = .ok (.ifCond .ge 7, 3) := by decide +kernel
theorem dX5_get_28 : decode cX5_get 28 = .ok (.iconst 2, 1) := by decide +kernel
theorem dX5_get_29 : decode cX5_get 29 = .ok (.goto 27, 3) := by decide +kernel
theorem dX5_get_32 : decode cX5_get 32 = .ok (.iload_n 3, 1) := by decide +kernel
theorem dX5_get_33 : decode cX5_get 33 = .ok (.ifCond .lt 18, 3) := by decide +kernel
theorem dX5_get_36 : decode cX5_get 36 = .ok (.iload_n 3, 1) := by decide +kernel
theorem dX5_get_37 : decode cX5_get 37 = .ok (.aload_n 0, 1) := by decide +kernel
theorem dX5_get_38 : decode cX5_get 38 = .ok (.getfield 19, 3) := by decide +kernel
theorem dX5_get_41 : decode cX5_get 41 = .ok (.aload_n 0, 1) := by decide +kernel
theorem dX5_get_42 : decode cX5_get 42 = .ok (.getfield 49, 3) := by decide +kernel
theorem dX5_get_45 : decode cX5_get 45 = .ok (.iload_n 2, 1) := by decide +kernel
theorem dX5_get_46 : decode cX5_get 46 = .ok (.iaload, 1) := by decide +kernel
theorem dX5_get_47 : decode cX5_get 47 = .ok (.iaload, 1) := by decide +kernel
theorem dX5_get_48 : decode cX5_get 48 = .ok (.if_icmp .lt 7, 3) := by decide +kernel
theorem dX5_get_51 : decode cX5_get 51 = .ok (.iconst 3, 1) := by decide +kernel
theorem dX5_get_52 : decode cX5_get 52 = .ok (.goto 4, 3) := by decide +kernel
theorem dX5_get_55 : decode cX5_get 55 = .ok (.iconst 0, 1) := by decide +kernel
theorem dX5_get_56 : decode cX5_get 56 = .ok (.putfield 75, 3) := by decide +kernel
theorem dX5_get_59 : decode cX5_get 59 = .ok (.aload_n 0, 1) := by decide +kernel
theorem dX5_get_60 : decode cX5_get 60 = .ok (.getfield 75, 3) := by decide +kernel
theorem dX5_get_63 : decode cX5_get 63 = .ok (.ifCond .le 5, 3) := by decide +kernel
theorem dX5_get_66 : decode cX5_get 66 = .ok (.iconst 0, 1) := by decide +kernel
theorem dX5_get_67 : decode cX5_get 67 = .ok (.ireturn, 1) := by decide +kernel
theorem dX5_get_68 : decode cX5_get 68 = .ok (.aload_n 0, 1) := by decide +kernel
theorem dX5_get_69 : decode cX5_get 69 = .ok (.getfield 49, 3) := by decide +kernel
theorem dX5_get_72 : decode cX5_get 72 = .ok (.iload_n 1, 1) := by decide +kernel
theorem dX5_get_73 : decode cX5_get 73 = .ok (.aload_n 0, 1) := by decide +kernel
theorem dX5_get_74 : decode cX5_get 74 = .ok (.getfield 25, 3) := by decide +kernel
theorem dX5_get_77 : decode cX5_get 77 = .ok (.bipush 12, 2) := by decide +kernel
theorem dX5_get_79 : decode cX5_get 79 = .ok (.aload_n 0, 1) := by decide +kernel
theorem dX5_get_80 : decode cX5_get 80 = .ok (.getfield 49, 3) := by decide +kernel
theorem dX5_get_83 : decode cX5_get 83 = .ok (.iload_n 2, 1) := by decide +kernel
theorem dX5_get_84 : decode cX5_get 84 = .ok (.iaload, 1) := by decide +kernel
theorem dX5_get_85 : decode cX5_get 85 = .ok (.imul, 1) := by decide +kernel
theorem dX5_get_86 : decode cX5_get 86 = .ok (.iload_n 3, 1) := by decide +kernel
theorem dX5_get_87 : decode cX5_get 87 = .ok (.iadd, 1) := by decide +kernel
theorem dX5_get_88 : decode cX5_get 88 = .ok (.iaload, 1) := by decide +kernel
theorem dX5_get_89 : decode cX5_get 89 = .ok (.iastore, 1) := by decide +kernel
theorem dX5_get_90 : decode cX5_get 90 = .ok (.aload_n 0, 1) := by decide +kernel
theorem dX5_get_91 : decode cX5_get 91 = .ok (.aload_n 0, 1) := by decide +kernel
theorem dX5_get_92 : decode cX5_get 92 = .ok (.getfield 49, 3) := by decide +kernel
theorem dX5_get_95 : decode cX5_get 95 = .ok (.iload_n 1, 1) := by decide +kernel
theorem dX5_get_96 : decode cX5_get 96 = .ok (.iaload, 1) := by decide +kernel
theorem dX5_get_97 : decode cX5_get 97 = .ok (.invokevirtual 179, 3) := by decide +kernel
theorem dX5_get_100 : decode cX5_get 100 = .ok (.ireturn, 1) := by decide +kernel
set_option maxRecDepth 20000 in
theorem ggX5_noNumber_X5_noRegister : GoodIn wsX5_noNumber wsX5_noRegister := goodIn_r _ [7] (by decide +kernel) (by decide +kernel)
set_option maxRecDepth 20000 in
theorem gX5_noNumber_X5_noRegister : GoodIn wsX5_noNumber (va_wsS RX5 170 yX5_noRegister wsX5_noRegister) := goodIn_app (goodIn_of _ (by decide +kernel)) ggX5_noNumber_X5_noRegister
theorem dX5_noNumber_0 : decode cX5_noNumber 0 = .ok (.aload_n 0, 1) := by decide +kernel
theorem dX5_noNumber_1 : decode cX5_noNumber 1 = .ok (.iload_n 1, 1) := by decide +kernel
theorem dX5_noNumber_2 : decode cX5_noNumber 2 = .ok (.invokestatic 170, 3) := by decide +kernel
theorem dX5_noNumber_5 : decode cX5_noNumber 5 = .ok (.ifCond .eq 7, 3) := by decide +kernel
theorem dX5_noNumber_8 : decode cX5_noNumber 8 = .ok (.iconst 1, 1) := by decide +kernel
theorem dX5_noNumber_9 : decode cX5_noNumber 9 = .ok (.goto 40, 3) := by decide +kernel
theorem dX5_noNumber_12 : decode cX5_noNumber 12 = .ok (.aload_n 0, 1) := by decide +kernel
theorem dX5_noNumber_13 : decode cX5_noNumber 13 = .ok (.getfield 49, 3) := by decide +kernel
theorem dX5_noNumber_16 : decode cX5_noNumber 16 = .ok (.iload_n 1, 1) := by decide +kernel
theorem dX5_noNumber_17 : decode cX5_noNumber 17 = .ok (.iaload, 1) := by decide +kernel
theorem dX5_noNumber_18 : decode cX5_noNumber 18 = .ok (.ifCond .ge 7, 3) := by decide +kernel
theorem dX5_noNumber_21 : decode cX5_noNumber 21 = .ok (.iconst 2, 1) := by decide +kernel
theorem dX5_noNumber_22 : decode cX5_noNumber 22 = .ok (.goto 27, 3) := by decide +kernel
theorem dX5_noNumber_25 : decode cX5_noNumber 25 = .ok (.iload_n 2, 1) := by decide +kernel
theorem dX5_noNumber_26 : decode cX5_noNumber 26 = .ok (.ifCond .lt 18, 3) := by decide +kernel
theorem dX5_noNumber_29 : decode cX5_noNumber 29 = .ok (.iload_n 2, 1) := by decide +kernel
theorem dX5_noNumber_30 : decode cX5_noNumber 30 = .ok (.aload_n 0, 1) := by decide +kernel
theorem dX5_noNumber_31 : decode cX5_noNumber 31 = .ok (.getfield 22, 3) := by decide +kernel
theorem dX5_noNumber_34 : decode cX5_noNumber 34 = .ok (.aload_n 0, 1) := by decide +kernel
theorem dX5_noNumber_35 : decode cX5_noNumber 35 = .ok (.getfield 49, 3) := by decide +kernel
theorem dX5_noNumber_38 : decode cX5_noNumber 38 = .ok (.iload_n 1, 1) := by decide +kernel
theorem dX5_noNumber_39 : decode cX5_noNumber 39 = .ok (.iaload, 1) := by decide +kernel
theorem dX5_noNumber_40 : decode cX5_noNumber 40 = .ok (.iaload, 1) := by decide +kernel
theorem dX5_noNumber_41 : decode cX5_noNumber 41 = .ok (.if_icmp .lt 7, 3) := by decide +kernel
theorem dX5_noNumber_44 : decode cX5_noNumber 44 = .ok (.iconst 3, 1) := by decide +kernel
theorem dX5_noNumber_45 : decode cX5_noNumber 45 = .ok (.goto 4, 3) := by decide +kernel
theorem dX5_noNumber_48 : decode cX5_noNumber 48 = .ok (.iconst 0, 1) := by decide +kernel
theorem dX5_noNumber_49 : decode cX5_noNumber 49 = .ok (.putfield 75, 3) := by decide +kernel
theorem dX5_noNumber_52 : decode cX5_noNumber 52 = .ok (.aload_n 0, 1) := by decide +kernel
theorem dX5_noNumber_53 : decode cX5_noNumber 53 = .ok (.getfield 75, 3) := by decide +kernel
theorem dX5_noNumber_56 : decode cX5_noNumber 56 = .ok (.ifCond .le 7, 3) := by decide +kernel
theorem dX5_noNumber_59 : decode cX5_noNumber 59 = .ok (.iconst 1, 1) := by decide +kernel
theorem dX5_noNumber_60 : decode cX5_noNumber 60 = .ok (.goto 4, 3) := by decide +kernel
theorem dX5_noNumber_63 : decode cX5_noNumber 63 = .ok (.iconst 0, 1) := by decide +kernel
theorem dX5_noNumber_64 : decode cX5_noNumber 64 = .ok (.ireturn, 1) := by decide +kernel
set_option maxRecDepth 20000 in
theorem ggX5_put_X5_noNumber : GoodIn wsX5_put wsX5_noNumber := goodIn_r _ [7, 1, 8, 9, 10, 11, 6, 12, 13, 14, 15, 16, 17, 18, 19, 20, 21, 22, 23, 24, 25, 26, 27, 28, 29, 30, 31, 32, 33, 34, 35, 36, 37, 38, 39, 40, 41, 42, 43] (by decide +kernel) (by decide +kernel)
set_option maxRecDepth 20000 in
theorem gX5_put_X5_noNumber : GoodIn wsX5_put (wsV RX5 182 RX5 yX5_noNumber wsX5_noNumber) := goodIn_app (goodIn_of _ (by decide +kernel)) ggX5_put_X5_noNumber
theorem dX5_put_0 : decode cX5_put 0 = .ok (.aload_n 0, 1) := by decide +kernel
theorem dX5_put_1 : decode cX5_put 1 = .ok (.iload_n 1, 1) := by decide +kernel
theorem dX5_put_2 : decode cX5_put 2 = .ok (.iload_n 2, 1) := by decide +kernel
theorem dX5_put_3 : decode cX5_put 3 = .ok (.invokevirtual 182, 3) := by decide +kernel
theorem dX5_put_6 : decode cX5_put 6 = .ok (.ifCond .eq 5, 3) := by decide +kernel
theorem dX5_put_9 : decode cX5_put 9 = .ok (.iconst 0, 1) := by decide +kernel
theorem dX5_put_10 : decode cX5_put 10 = .ok (.ireturn, 1) := by decide +kernel
theorem dX5_put_11 : decode cX5_put 11 = .ok (.bipush 12, 2) := by decide +kernel
theorem dX5_put_13 : decode cX5_put 13 = .ok (.aload_n 0, 1) := by decide +kernel
theorem dX5_put_14 : decode cX5_put 14 = .ok (.getfield 49, 3) := by decide +kernel
theorem dX5_put_17 : decode cX5_put 17 = .ok (.iload_n 1, 1) := by decide +kernel
theorem dX5_put_18 : decode cX5_put 18 = .ok (.iaload, 1) := by decide +kernel
theorem dX5_put_19 : decode cX5_put 19 = .ok (.imul, 1) := by decide +kernel
theorem dX5_put_20 : decode cX5_put 20 = .ok (.iload_n 2, 1) := by decide +kernel
theorem dX5_put_21 : decode cX5_put 21 = .ok (.iadd, 1) := by decide +kernel
theorem dX5_put_22 : decode cX5_put 22 = .ok (.istore 4, 2) := by decide +kernel
theorem dX5_put_24 : decode cX5_put 24 = .ok (.aload_n 0, 1) := by decide +kernel
theorem dX5_put_25 : decode cX5_put 25 = .ok (.getfield 28, 3) := by decide +kernel
theorem dX5_put_28 : decode cX5_put 28 = .ok (.iload 4, 2) := by decide +kernel
theorem dX5_put_30 : decode cX5_put 30 = .ok (.iaload, 1) := by decide +kernel
theorem dX5_put_31 : decode cX5_put 31 = .ok (.istore 5, 2) := by decide +kernel
theorem dX5_put_33 : decode cX5_put 33 = .ok (.aload_n 0, 1) := by decide +kernel
theorem dX5_put_34 : decode cX5_put 34 = .ok (.getfield 28, 3) := by decide +kernel
theorem dX5_put_37 : decode cX5_put 37 = .ok (.iload 4, 2) := by decide +kernel
theorem dX5_put_39 : decode cX5_put 39 = .ok (.iload_n 3, 1) := by decide +kernel
theorem dX5_put_40 : decode cX5_put 40 = .ok (.iastore, 1) := by decide +kernel
theorem dX5_put_41 : decode cX5_put 41 = .ok (.iload 5, 2) := by decide +kernel
theorem dX5_put_43 : decode cX5_put 43 = .ok (.ireturn, 1) := by decide +kernel
set_option maxRecDepth 20000 in
theorem ggX5_number_X5_noNumber : GoodIn wsX5_number wsX5_noNumber := goodIn_r _ [7, 2, 8, 9, 10, 11, 6, 12, 13, 14, 15, 16, 17, 18, 19, 20, 21, 22, 23, 24, 25, 26, 27, 28, 29, 30, 31, 32, 33, 34, 35, 36, 37, 38, 39, 40, 41, 42, 43] (by decide +kernel) (by decide +kernel)
set_option maxRecDepth 20000 in
theorem gX5_number_X5_noNumber : GoodIn wsX5_number (wsV RX5 182 RX5 yX5_noNumber wsX5_noNumber) := goodIn_app (goodIn_of _ (by decide +kernel)) ggX5_number_X5_noNumber
theorem dX5_number_0 : decode cX5_number 0 = .ok (.aload_n 0, 1) := by decide +kernel
theorem dX5_number_1 : decode cX5_number 1 = .ok (.iload_n 1, 1) := by decide +kernel
theorem dX5_number_2 : decode cX5_number 2 = .ok (.iload_n 2, 1) := by decide +kernel
theorem dX5_number_3 : decode cX5_number 3 = .ok (.invokevirtual 182, 3) := by decide +kernel
theorem dX5_number_6 : decode cX5_number 6 = .ok (.ifCond .eq 7, 3) := by decide +kernel
theorem dX5_number_9 : decode cX5_number 9 = .ok (.iconst 0, 1) := by decide +kernel
theorem dX5_number_10 : decode cX5_number 10 = .ok (.goto 19, 3) := by decide +kernel
theorem dX5_number_13 : decode cX5_number 13 = .ok (.aload_n 0, 1) := by decide +kernel
theorem dX5_number_14 : decode cX5_number 14 = .ok (.getfield 28, 3) := by decide +kernel
theorem dX5_number_17 : decode cX5_number 17 = .ok (.bipush 12, 2) := by decide +kernel
theorem dX5_number_19 : decode cX5_number 19 = .ok (.aload_n 0, 1) := by decide +kernel
theorem dX5_number_20 : decode cX5_number 20 = .ok (.getfield 49, 3) := by decide +kernel
theorem dX5_number_23 : decode cX5_number 23 = .ok (.iload_n 1, 1) := by decide +kernel
theorem dX5_number_24 : decode cX5_number 24 = .ok (.iaload, 1) := by decide +kernel
theorem dX5_number_25 : decode cX5_number 25 = .ok (.imul, 1) := by decide +kernel
theorem dX5_number_26 : decode cX5_number 26 = .ok (.iload_n 2, 1) := by decide +kernel
theorem dX5_number_27 : decode cX5_number 27 = .ok (.iadd, 1) := by decide +kernel
theorem dX5_number_28 : decode cX5_number 28 = .ok (.iaload, 1) := by decide +kernel
theorem dX5_number_29 : decode cX5_number 29 = .ok (.ireturn, 1) := by decide +kernel
set_option maxRecDepth 20000 in
theorem ggX5_thing_X5_noRegister : GoodIn wsX5_thing wsX5_noRegister := goodIn_r _ [11] (by decide +kernel) (by decide +kernel)
set_option maxRecDepth 20000 in
theorem gX5_thing_X5_noRegister : GoodIn wsX5_thing (va_wsS RX5 170 yX5_noRegister wsX5_noRegister) := goodIn_app (goodIn_of _ (by decide +kernel)) ggX5_thing_X5_noRegister
set_option maxRecDepth 20000 in
theorem ggX5_thing_X5_place : GoodIn wsX5_thing wsX5_place := goodIn_r _ [15, 5, 16, 24, 25, 26, 27, 28, 29, 30, 31, 32, 33, 34, 35, 36, 37, 38, 39, 40, 41, 42, 43, 44, 45, 46, 47, 48, 49, 50, 51, 52, 53, 54] (by decide +kernel) (by decide +kernel)
set_option maxRecDepth 20000 in
theorem gX5_thing_X5_place : GoodIn wsX5_thing (wsV RX5 106 RX5 yX5_place wsX5_place) := goodIn_app (goodIn_of _ (by decide +kernel)) ggX5_thing_X5_place
set_option maxRecDepth 20000 in
theorem ggX5_thing_X5_trainOf : GoodIn wsX5_thing wsX5_trainOf := goodIn_r _ [20, 21, 22, 23, 24, 25, 26, 27, 28, 29, 30, 31, 32, 33, 34, 35, 36, 37, 38, 39, 40, 41, 42, 43, 44, 45, 46, 47, 48, 49, 50, 51, 52, 53, 54] (by decide +kernel) (by decide +kernel)
set_option maxRecDepth 20000 in
theorem gX5_thing_X5_trainOf : GoodIn wsX5_thing (wsV RX5 81 RX5 yX5_trainOf wsX5_trainOf) := goodIn_app (goodIn_of _ (by decide +kernel)) ggX5_thing_X5_trainOf
theorem dX5_thing_0 : decode cX5_thing 0 = .ok (.aload_n 0, 1) := by decide +kernel
theorem dX5_thing_1 : decode cX5_thing 1 = .ok (.iload_n 1, 1) := by decide +kernel
theorem dX5_thing_2 : decode cX5_thing 2 = .ok (.invokestatic 170, 3) := by decide +kernel
theorem dX5_thing_5 : decode cX5_thing 5 = .ok (.ifCond .ne 12, 3) := by decide +kernel
theorem dX5_thing_8 : decode cX5_thing 8 = .ok (.iload_n 2, 1) := by decide +kernel
theorem dX5_thing_9 : decode cX5_thing 9 = .ok (.ifCond .lt 8, 3) := by decide +kernel
theorem dX5_thing_12 : decode cX5_thing 12 = .ok (.iload_n 2, 1) := by decide +kernel
theorem dX5_thing_13 : decode cX5_thing 13 = .ok (.iconst 4, 1) := by decide +kernel
theorem dX5_thing_14 : decode cX5_thing 14 = .ok (.if_icmp .le 7, 3) := by decide +kernel
theorem dX5_thing_17 : decode cX5_thing 17 = .ok (.iconst 1, 1) := by decide +kernel
theorem dX5_thing_18 : decode cX5_thing 18 = .ok (.goto 17, 3) := by decide +kernel
theorem dX5_thing_21 : decode cX5_thing 21 = .ok (.aload_n 0, 1) := by decide +kernel
theorem dX5_thing_22 : decode cX5_thing 22 = .ok (.getfield 49, 3) := by decide +kernel
theorem dX5_thing_25 : decode cX5_thing 25 = .ok (.iload_n 1, 1) := by decide +kernel
theorem dX5_thing_26 : decode cX5_thing 26 = .ok (.iaload, 1) := by decide +kernel
theorem dX5_thing_27 : decode cX5_thing 27 = .ok (.ifCond .ge 7, 3) := by decide +kernel
theorem dX5_thing_30 : decode cX5_thing 30 = .ok (.iconst 2, 1) := by decide +kernel
theorem dX5_thing_31 : decode cX5_thing 31 = .ok (.goto 4, 3) := by decide +kernel
theorem dX5_thing_34 : decode cX5_thing 34 = .ok (.iconst 0, 1) := by decide +kernel
theorem dX5_thing_35 : decode cX5_thing 35 = .ok (.putfield 75, 3) := by decide +kernel
theorem dX5_thing_38 : decode cX5_thing 38 = .ok (.aload_n 0, 1) := by decide +kernel
theorem dX5_thing_39 : decode cX5_thing 39 = .ok (.getfield 75, 3) := by decide +kernel
theorem dX5_thing_42 : decode cX5_thing 42 = .ok (.ifCond .le 5, 3) := by decide +kernel
theorem dX5_thing_45 : decode cX5_thing 45 = .ok (.iconst 0, 1) := by decide +kernel
theorem dX5_thing_46 : decode cX5_thing 46 = .ok (.ireturn, 1) := by decide +kernel
theorem dX5_thing_47 : decode cX5_thing 47 = .ok (.aload_n 0, 1) := by decide +kernel
theorem dX5_thing_48 : decode cX5_thing 48 = .ok (.getfield 49, 3) := by decide +kernel
theorem dX5_thing_51 : decode cX5_thing 51 = .ok (.iload_n 1, 1) := by decide +kernel
theorem dX5_thing_52 : decode cX5_thing 52 = .ok (.iaload, 1) := by decide +kernel
theorem dX5_thing_53 : decode cX5_thing 53 = .ok (.istore_n 3, 1) := by decide +kernel
theorem dX5_thing_54 : decode cX5_thing 54 = .ok (.iload_n 2, 1) := by decide +kernel
theorem dX5_thing_55 : decode cX5_thing 55 = .ok (.ifCond .ne 12, 3) := by decide +kernel
theorem dX5_thing_58 : decode cX5_thing 58 = .ok (.aload_n 0, 1) := by decide +kernel
theorem dX5_thing_59 : decode cX5_thing 59 = .ok (.getfield 7, 3) := by decide +kernel
theorem dX5_thing_62 : decode cX5_thing 62 = .ok (.iload_n 3, 1) := by decide +kernel
theorem dX5_thing_63 : decode cX5_thing 63 = .ok (.iaload, 1) := by decide +kernel
theorem dX5_thing_64 : decode cX5_thing 64 = .ok (.goto 59, 3) := by decide +kernel
theorem dX5_thing_67 : decode cX5_thing 67 = .ok (.iload_n 2, 1) := by decide +kernel
theorem dX5_thing_68 : decode cX5_thing 68 = .ok (.iconst 1, 1) := by decide +kernel
theorem dX5_thing_69 : decode cX5_thing 69 = .ok (.if_icmp .ne 11, 3) := by decide +kernel
theorem dX5_thing_72 : decode cX5_thing 72 = .ok (.aload_n 0, 1) := by decide +kernel
theorem dX5_thing_73 : decode cX5_thing 73 = .ok (.iload_n 3, 1) := by decide +kernel
theorem dX5_thing_74 : decode cX5_thing 74 = .ok (.invokevirtual 106, 3) := by decide +kernel
theorem dX5_thing_77 : decode cX5_thing 77 = .ok (.goto 46, 3) := by decide +kernel
theorem dX5_thing_80 : decode cX5_thing 80 = .ok (.iload_n 2, 1) := by decide +kernel
theorem dX5_thing_81 : decode cX5_thing 81 = .ok (.iconst 2, 1) := by decide +kernel
theorem dX5_thing_82 : decode cX5_thing 82 = .ok (.if_icmp .ne 21, 3) := by decide +kernel
theorem dX5_thing_85 : decode cX5_thing 85 = .ok (.aload_n 0, 1) := by decide +kernel
theorem dX5_thing_86 : decode cX5_thing 86 = .ok (.getfield 40, 3) := by decide +kernel
theorem dX5_thing_89 : decode cX5_thing 89 = .ok (.aload_n 0, 1) := by decide +kernel
theorem dX5_thing_90 : decode cX5_thing 90 = .ok (.aload_n 0, 1) := by decide +kernel
theorem dX5_thing_91 : decode cX5_thing 91 = .ok (.getfield 13, 3) := by decide +kernel
theorem dX5_thing_94 : decode cX5_thing 94 = .ok (.iload_n 3, 1) := by decide +kernel
theorem dX5_thing_95 : decode cX5_thing 95 = .ok (.iaload, 1) := by decide +kernel
theorem dX5_thing_96 : decode cX5_thing 96 = .ok (.invokevirtual 81, 3) := by decide +kernel
theorem dX5_thing_99 : decode cX5_thing 99 = .ok (.iaload, 1) := by decide +kernel
theorem dX5_thing_100 : decode cX5_thing 100 = .ok (.goto 23, 3) := by decide +kernel
theorem dX5_thing_103 : decode cX5_thing 103 = .ok (.iload_n 2, 1) := by decide +kernel
theorem dX5_thing_104 : decode cX5_thing 104 = .ok (.iconst 3, 1) := by decide +kernel
theorem dX5_thing_105 : decode cX5_thing 105 = .ok (.if_icmp .ne 12, 3) := by decide +kernel
theorem dX5_thing_108 : decode cX5_thing 108 = .ok (.aload_n 0, 1) := by decide +kernel
theorem dX5_thing_109 : decode cX5_thing 109 = .ok (.getfield 19, 3) := by decide +kernel
theorem dX5_thing_112 : decode cX5_thing 112 = .ok (.iload_n 3, 1) := by decide +kernel
theorem dX5_thing_113 : decode cX5_thing 113 = .ok (.iaload, 1) := by decide +kernel
theorem dX5_thing_114 : decode cX5_thing 114 = .ok (.goto 9, 3) := by decide +kernel
theorem dX5_thing_117 : decode cX5_thing 117 = .ok (.aload_n 0, 1) := by decide +kernel
theorem dX5_thing_118 : decode cX5_thing 118 = .ok (.getfield 22, 3) := by decide +kernel
theorem dX5_thing_121 : decode cX5_thing 121 = .ok (.iload_n 3, 1) := by decide +kernel
theorem dX5_thing_122 : decode cX5_thing 122 = .ok (.iaload, 1) := by decide +kernel
theorem dX5_thing_123 : decode cX5_thing 123 = .ok (.ireturn, 1) := by decide +kernel
set_option maxRecDepth 20000 in
theorem ggX5_label_X5_noRegister : GoodIn wsX5_label wsX5_noRegister := goodIn_r _ [8] (by decide +kernel) (by decide +kernel)
set_option maxRecDepth 20000 in
theorem gX5_label_X5_noRegister : GoodIn wsX5_label (va_wsS RX5 170 yX5_noRegister wsX5_noRegister) := goodIn_app (goodIn_of _ (by decide +kernel)) ggX5_label_X5_noRegister
set_option maxRecDepth 20000 in
theorem ggX5_label_X5_labelOf : GoodIn wsX5_label wsX5_labelOf := goodIn_r _ [12, 13, 14, 15, 16, 17, 18, 19, 20, 21, 22, 23, 24, 25, 26, 27, 28, 29, 30, 31, 32, 33, 34, 35, 36, 37, 38, 39, 40, 41, 42, 43, 44] (by decide +kernel) (by decide +kernel)
set_option maxRecDepth 20000 in
theorem gX5_label_X5_labelOf : GoodIn wsX5_label (wsV RX5 179 RX5 yX5_labelOf wsX5_labelOf) := goodIn_app (goodIn_of _ (by decide +kernel)) ggX5_label_X5_labelOf
theorem dX5_label_0 : decode cX5_label 0 = .ok (.aload_n 0, 1) := by decide +kernel
theorem dX5_label_1 : decode cX5_label 1 = .ok (.iload_n 1, 1) := by decide +kernel
theorem dX5_label_2 : decode cX5_label 2 = .ok (.invokestatic 170, 3) := by decide +kernel
theorem dX5_label_5 : decode cX5_label 5 = .ok (.ifCond .eq 7, 3) := by decide +kernel
theorem dX5_label_8 : decode cX5_label 8 = .ok (.iconst 1, 1) := by decide +kernel
theorem dX5_label_9 : decode cX5_label 9 = .ok (.goto 40, 3) := by decide +kernel
theorem dX5_label_12 : decode cX5_label 12 = .ok (.aload_n 0, 1) := by decide +kernel
theorem dX5_label_13 : decode cX5_label 13 = .ok (.getfield 49, 3) := by decide +kernel
theorem dX5_label_16 : decode cX5_label 16 = .ok (.iload_n 1, 1) := by decide +kernel
theorem dX5_label_17 : decode cX5_label 17 = .ok (.iaload, 1) := by decide +kernel
theorem dX5_label_18 : decode cX5_label 18 = .ok (.ifCond .ge 7, 3) := by decide +kernel
theorem dX5_label_21 : decode cX5_label 21 = .ok (.iconst 2, 1) := by decide +kernel
theorem dX5_label_22 : decode cX5_label 22 = .ok (.goto 27, 3) := by decide +kernel
theorem dX5_label_25 : decode cX5_label 25 = .ok (.iload_n 2, 1) := by decide +kernel
theorem dX5_label_26 : decode cX5_label 26 = .ok (.ifCond .lt 18, 3) := by decide +kernel
theorem dX5_label_29 : decode cX5_label 29 = .ok (.iload_n 2, 1) := by decide +kernel
theorem dX5_label_30 : decode cX5_label 30 = .ok (.aload_n 0, 1) := by decide +kernel
theorem dX5_label_31 : decode cX5_label 31 = .ok (.getfield 19, 3) := by decide +kernel
theorem dX5_label_34 : decode cX5_label 34 = .ok (.aload_n 0, 1) := by decide +kernel
theorem dX5_label_35 : decode cX5_label 35 = .ok (.getfield 49, 3) := by decide +kernel
theorem dX5_label_38 : decode cX5_label 38 = .ok (.iload_n 1, 1) := by decide +kernel
theorem dX5_label_39 : decode cX5_label 39 = .ok (.iaload, 1) := by decide +kernel
theorem dX5_label_40 : decode cX5_label 40 = .ok (.iaload, 1) := by decide +kernel
theorem dX5_label_41 : decode cX5_label 41 = .ok (.if_icmp .lt 7, 3) := by decide +kernel
theorem dX5_label_44 : decode cX5_label 44 = .ok (.iconst 3, 1) := by decide +kernel
theorem dX5_label_45 : decode cX5_label 45 = .ok (.goto 4, 3) := by decide +kernel
theorem dX5_label_48 : decode cX5_label 48 = .ok (.iconst 0, 1) := by decide +kernel
theorem dX5_label_49 : decode cX5_label 49 = .ok (.putfield 75, 3) := by decide +kernel
theorem dX5_label_52 : decode cX5_label 52 = .ok (.aload_n 0, 1) := by decide +kernel
theorem dX5_label_53 : decode cX5_label 53 = .ok (.getfield 75, 3) := by decide +kernel
theorem dX5_label_56 : decode cX5_label 56 = .ok (.ifCond .le 7, 3) := by decide +kernel
theorem dX5_label_59 : decode cX5_label 59 = .ok (.iconst 0, 1) := by decide +kernel
theorem dX5_label_60 : decode cX5_label 60 = .ok (.goto 23, 3) := by decide +kernel
theorem dX5_label_63 : decode cX5_label 63 = .ok (.aload_n 0, 1) := by decide +kernel
theorem dX5_label_64 : decode cX5_label 64 = .ok (.aload_n 0, 1) := by decide +kernel
theorem dX5_label_65 : decode cX5_label 65 = .ok (.getfield 25, 3) := by decide +kernel
theorem dX5_label_68 : decode cX5_label 68 = .ok (.bipush 12, 2) := by decide +kernel
theorem dX5_label_70 : decode cX5_label 70 = .ok (.aload_n 0, 1) := by decide +kernel
theorem dX5_label_71 : decode cX5_label 71 = .ok (.getfield 49, 3) := by decide +kernel
theorem dX5_label_74 : decode cX5_label 74 = .ok (.iload_n 1, 1) := by decide +kernel
theorem dX5_label_75 : decode cX5_label 75 = .ok (.iaload, 1) := by decide +kernel
theorem dX5_label_76 : decode cX5_label 76 = .ok (.imul, 1) := by decide +kernel
theorem dX5_label_77 : decode cX5_label 77 = .ok (.iload_n 2, 1) := by decide +kernel
theorem dX5_label_78 : decode cX5_label 78 = .ok (.iadd, 1) := by decide +kernel
theorem dX5_label_79 : decode cX5_label 79 = .ok (.iaload, 1) := by decide +kernel
theorem dX5_label_80 : decode cX5_label 80 = .ok (.invokevirtual 179, 3) := by decide +kernel
theorem dX5_label_83 : decode cX5_label 83 = .ok (.ireturn, 1) := by decide +kernel
theorem dX5_train_0 : decode cX5_train 0 = .ok (.aload_n 0, 1) := by decide +kernel
theorem dX5_train_1 : decode cX5_train 1 = .ok (.iload_n 1, 1) := by decide +kernel
theorem dX5_train_2 : decode cX5_train 2 = .ok (.ifCond .lt 20, 3) := by decide +kernel
theorem dX5_train_5 : decode cX5_train 5 = .ok (.iload_n 1, 1) := by decide +kernel
theorem dX5_train_6 : decode cX5_train 6 = .ok (.aload_n 0, 1) := by decide +kernel
theorem dX5_train_7 : decode cX5_train 7 = .ok (.getfield 78, 3) := by decide +kernel
theorem dX5_train_10 : decode cX5_train 10 = .ok (.if_icmp .ge 12, 3) := by decide +kernel
theorem dX5_train_13 : decode cX5_train 13 = .ok (.iload_n 2, 1) := by decide +kernel
theorem dX5_train_14 : decode cX5_train 14 = .ok (.ifCond .lt 8, 3) := by decide +kernel
theorem dX5_train_17 : decode cX5_train 17 = .ok (.iload_n 2, 1) := by decide +kernel
theorem dX5_train_18 : decode cX5_train 18 = .ok (.iconst 2, 1) := by decide +kernel
theorem dX5_train_19 : decode cX5_train 19 = .ok (.if_icmp .le 7, 3) := by decide +kernel
theorem dX5_train_22 : decode cX5_train 22 = .ok (.iconst 1, 1) := by decide +kernel
theorem dX5_train_23 : decode cX5_train 23 = .ok (.goto 4, 3) := by decide +kernel
theorem dX5_train_26 : decode cX5_train 26 = .ok (.iconst 0, 1) := by decide +kernel
theorem dX5_train_27 : decode cX5_train 27 = .ok (.putfield 75, 3) := by decide +kernel
theorem dX5_train_30 : decode cX5_train 30 = .ok (.aload_n 0, 1) := by decide +kernel
theorem dX5_train_31 : decode cX5_train 31 = .ok (.getfield 75, 3) := by decide +kernel
theorem dX5_train_34 : decode cX5_train 34 = .ok (.ifCond .le 5, 3) := by decide +kernel
theorem dX5_train_37 : decode cX5_train 37 = .ok (.iconst 0, 1) := by decide +kernel
theorem dX5_train_38 : decode cX5_train 38 = .ok (.ireturn, 1) := by decide +kernel
theorem dX5_train_39 : decode cX5_train 39 = .ok (.iconst 0, 1) := by decide +kernel
theorem dX5_train_40 : decode cX5_train 40 = .ok (.istore_n 3, 1) := by decide +kernel
theorem dX5_train_41 : decode cX5_train 41 = .ok (.iconst 0, 1) := by decide +kernel
theorem dX5_train_42 : decode cX5_train 42 = .ok (.istore 4, 2) := by decide +kernel
theorem dX5_train_44 : decode cX5_train 44 = .ok (.iload 4, 2) := by decide +kernel
theorem dX5_train_46 : decode cX5_train 46 = .ok (.aload_n 0, 1) := by decide +kernel
theorem dX5_train_47 : decode cX5_train 47 = .ok (.getfield 43, 3) := by decide +kernel
theorem dX5_train_50 : decode cX5_train 50 = .ok (.iload_n 1, 1) := by decide +kernel
theorem dX5_train_51 : decode cX5_train 51 = .ok (.iaload, 1) := by decide +kernel
theorem dX5_train_52 : decode cX5_train 52 = .ok (.if_icmp .ge 29, 3) := by decide +kernel
theorem dX5_train_55 : decode cX5_train 55 = .ok (.iload_n 3, 1) := by decide +kernel
theorem dX5_train_56 : decode cX5_train 56 = .ok (.aload_n 0, 1) := by decide +kernel
theorem dX5_train_57 : decode cX5_train 57 = .ok (.getfield 34, 3) := by decide +kernel
theorem dX5_train_60 : decode cX5_train 60 = .ok (.aload_n 0, 1) := by decide +kernel
theorem dX5_train_61 : decode cX5_train 61 = .ok (.getfield 46, 3) := by decide +kernel
theorem dX5_train_64 : decode cX5_train 64 = .ok (.bipush 40, 2) := by decide +kernel
theorem dX5_train_66 : decode cX5_train 66 = .ok (.iload_n 1, 1) := by decide +kernel
theorem dX5_train_67 : decode cX5_train 67 = .ok (.imul, 1) := by decide +kernel
theorem dX5_train_68 : decode cX5_train 68 = .ok (.iload 4, 2) := by decide +kernel
theorem dX5_train_70 : decode cX5_train 70 = .ok (.iadd, 1) := by decide +kernel
theorem dX5_train_71 : decode cX5_train 71 = .ok (.iaload, 1) := by decide +kernel
theorem dX5_train_72 : decode cX5_train 72 = .ok (.iaload, 1) := by decide +kernel
theorem dX5_train_73 : decode cX5_train 73 = .ok (.iadd, 1) := by decide +kernel
theorem dX5_train_74 : decode cX5_train 74 = .ok (.istore_n 3, 1) := by decide +kernel
theorem dX5_train_75 : decode cX5_train 75 = .ok (.iinc 4 1, 3) := by decide +kernel
theorem dX5_train_78 : decode cX5_train 78 = .ok (.goto (-34), 3) := by decide +kernel
theorem dX5_train_81 : decode cX5_train 81 = .ok (.iload_n 2, 1) := by decide +kernel
theorem dX5_train_82 : decode cX5_train 82 = .ok (.ifCond .ne 12, 3) := by decide +kernel
theorem dX5_train_85 : decode cX5_train 85 = .ok (.aload_n 0, 1) := by decide +kernel
theorem dX5_train_86 : decode cX5_train 86 = .ok (.getfield 40, 3) := by decide +kernel
theorem dX5_train_89 : decode cX5_train 89 = .ok (.iload_n 1, 1) := by decide +kernel
theorem dX5_train_90 : decode cX5_train 90 = .ok (.iaload, 1) := by decide +kernel
theorem dX5_train_91 : decode cX5_train 91 = .ok (.goto 18, 3) := by decide +kernel
theorem dX5_train_94 : decode cX5_train 94 = .ok (.iload_n 2, 1) := by decide +kernel
theorem dX5_train_95 : decode cX5_train 95 = .ok (.iconst 1, 1) := by decide +kernel
theorem dX5_train_96 : decode cX5_train 96 = .ok (.if_icmp .ne 12, 3) := by decide +kernel
theorem dX5_train_99 : decode cX5_train 99 = .ok (.aload_n 0, 1) := by decide +kernel
theorem dX5_train_100 : decode cX5_train 100 = .ok (.getfield 43, 3) := by decide +kernel
theorem dX5_train_103 : decode cX5_train 103 = .ok (.iload_n 1, 1) := by decide +kernel
theorem dX5_train_104 : decode cX5_train 104 = .ok (.iaload, 1) := by decide +kernel
theorem dX5_train_105 : decode cX5_train 105 = .ok (.goto 4, 3) := by decide +kernel
theorem dX5_train_108 : decode cX5_train 108 = .ok (.iload_n 3, 1) := by decide +kernel
theorem dX5_train_109 : decode cX5_train 109 = .ok (.ireturn, 1) := by decide +kernel
theorem dX5_car_0 : decode cX5_car 0 = .ok (.aload_n 0, 1) := by decide +kernel
theorem dX5_car_1 : decode cX5_car 1 = .ok (.iload_n 1, 1) := by decide +kernel
theorem dX5_car_2 : decode cX5_car 2 = .ok (.ifCond .lt 25, 3) := by decide +kernel
theorem dX5_car_5 : decode cX5_car 5 = .ok (.iload_n 1, 1) := by decide +kernel
theorem dX5_car_6 : decode cX5_car 6 = .ok (.aload_n 0, 1) := by decide +kernel
theorem dX5_car_7 : decode cX5_car 7 = .ok (.getfield 78, 3) := by decide +kernel
theorem dX5_car_10 : decode cX5_car 10 = .ok (.if_icmp .ge 17, 3) := by decide +kernel
theorem dX5_car_13 : decode cX5_car 13 = .ok (.iload_n 2, 1) := by decide +kernel
theorem dX5_car_14 : decode cX5_car 14 = .ok (.ifCond .lt 13, 3) := by decide +kernel
theorem dX5_car_17 : decode cX5_car 17 = .ok (.iload_n 2, 1) := by decide +kernel
theorem dX5_car_18 : decode cX5_car 18 = .ok (.aload_n 0, 1) := by decide +kernel
theorem dX5_car_19 : decode cX5_car 19 = .ok (.getfield 43, 3) := by decide +kernel
theorem dX5_car_22 : decode cX5_car 22 = .ok (.iload_n 1, 1) := by decide +kernel
theorem dX5_car_23 : decode cX5_car 23 = .ok (.iaload, 1) := by decide +kernel
theorem dX5_car_24 : decode cX5_car 24 = .ok (.if_icmp .lt 7, 3) := by decide +kernel
theorem dX5_car_27 : decode cX5_car 27 = .ok (.iconst 1, 1) := by decide +kernel
theorem dX5_car_28 : decode cX5_car 28 = .ok (.goto 4, 3) := by decide +kernel
theorem dX5_car_31 : decode cX5_car 31 = .ok (.iconst 0, 1) := by decide +kernel
theorem dX5_car_32 : decode cX5_car 32 = .ok (.putfield 75, 3) := by decide +kernel
theorem dX5_car_35 : decode cX5_car 35 = .ok (.aload_n 0, 1) := by decide +kernel
theorem dX5_car_36 : decode cX5_car 36 = .ok (.getfield 75, 3) := by decide +kernel
theorem dX5_car_39 : decode cX5_car 39 = .ok (.ifCond .le 7, 3) := by decide +kernel
theorem dX5_car_42 : decode cX5_car 42 = .ok (.iconst 0, 1) := by decide +kernel
theorem dX5_car_43 : decode cX5_car 43 = .ok (.goto 14, 3) := by decide +kernel
theorem dX5_car_46 : decode cX5_car 46 = .ok (.aload_n 0, 1) := by decide +kernel
theorem dX5_car_47 : decode cX5_car 47 = .ok (.getfield 46, 3) := by decide +kernel
theorem dX5_car_50 : decode cX5_car 50 = .ok (.bipush 40, 2) := by decide +kernel
theorem dX5_car_52 : decode cX5_car 52 = .ok (.iload_n 1, 1) := by decide +kernel
theorem dX5_car_53 : decode cX5_car 53 = .ok (.imul, 1) := by decide +kernel
theorem dX5_car_54 : decode cX5_car 54 = .ok (.iload_n 2, 1) := by decide +kernel
theorem dX5_car_55 : decode cX5_car 55 = .ok (.iadd, 1) := by decide +kernel
theorem dX5_car_56 : decode cX5_car 56 = .ok (.iaload, 1) := by decide +kernel
theorem dX5_car_57 : decode cX5_car 57 = .ok (.ireturn, 1) := by decide +kernel
set_option maxRecDepth 20000 in
theorem ggX5_remembers_X5_trainOf : GoodIn wsX5_remembers wsX5_trainOf := goodIn_r _ [10, 11, 12, 13, 27, 28, 29, 30, 31, 32, 33, 34, 35, 36, 37, 38, 39, 40, 41, 42, 43, 44, 45, 46, 47, 48, 49, 50, 51, 52, 53, 54, 55, 56, 57] (by decide +kernel) (by decide +kernel)
set_option maxRecDepth 20000 in
theorem gX5_remembers_X5_trainOf : GoodIn wsX5_remembers (wsV RX5 81 RX5 yX5_trainOf wsX5_trainOf) := goodIn_app (goodIn_of _ (by decide +kernel)) ggX5_remembers_X5_trainOf
set_option maxRecDepth 20000 in
theorem ggX5_remembers_X5_rank : GoodIn wsX5_remembers wsX5_rank := goodIn_r _ [17, 11, 12, 13, 27, 28, 29, 30, 31, 32, 33, 34, 35, 36, 37, 38, 39, 40, 41, 42, 43, 44, 45, 46, 47, 48, 49, 50, 51, 52, 53, 54, 55, 56, 57] (by decide +kernel) (by decide +kernel)
set_option maxRecDepth 20000 in
theorem gX5_remembers_X5_rank : GoodIn wsX5_remembers (wsV RX5 185 RX5 yX5_rank wsX5_rank) := goodIn_app (goodIn_of _ (by decide +kernel)) ggX5_remembers_X5_rank
set_option maxRecDepth 20000 in
theorem ggX5_remembers_X5_referencePlace : GoodIn wsX5_remembers wsX5_referencePlace := goodIn_r _ [21, 22, 23, 24, 9, 25, 5, 26, 27, 28, 29, 30, 31, 32, 33, 34, 35, 36, 37, 38, 39, 40, 41, 42, 43, 44, 45, 46, 47, 48, 49, 50, 51, 52, 53, 54, 55, 56, 57] (by decide +kernel) (by decide +kernel)
set_option maxRecDepth 20000 in
theorem gX5_remembers_X5_referencePlace : GoodIn wsX5_remembers (wsV RX5 188 RX5 yX5_referencePlace wsX5_referencePlace) := goodIn_app (goodIn_of _ (by decide +kernel)) ggX5_remembers_X5_referencePlace
theorem dX5_remembers_0 : decode cX5_remembers 0 = .ok (.iconst 0, 1) := by decide +kernel
theorem dX5_remembers_1 : decode cX5_remembers 1 = .ok (.istore_n 3, 1) := by decide +kernel
theorem dX5_remembers_2 : decode cX5_remembers 2 = .ok (.aload_n 0, 1) := by decide +kernel
theorem dX5_remembers_3 : decode cX5_remembers 3 = .ok (.iload_n 1, 1) := by decide +kernel
theorem dX5_remembers_4 : decode cX5_remembers 4 = .ok (.invokevirtual 81, 3) := by decide +kernel
theorem dX5_remembers_7 : decode cX5_remembers 7 = .ok (.ifCond .lt 7, 3) := by decide +kernel
theorem dX5_remembers_10 : decode cX5_remembers 10 = .ok (.iconst 1, 1) := by decide +kernel
theorem dX5_remembers_11 : decode cX5_remembers 11 = .ok (.goto 4, 3) := by decide +kernel
theorem dX5_remembers_14 : decode cX5_remembers 14 = .ok (.iconst 0, 1) := by decide +kernel
theorem dX5_remembers_15 : decode cX5_remembers 15 = .ok (.istore 4, 2) := by decide +kernel
theorem dX5_remembers_17 : decode cX5_remembers 17 = .ok (.iconst 0, 1) := by decide +kernel
theorem dX5_remembers_18 : decode cX5_remembers 18 = .ok (.istore 5, 2) := by decide +kernel
theorem dX5_remembers_20 : decode cX5_remembers 20 = .ok (.iload 5, 2) := by decide +kernel
theorem dX5_remembers_22 : decode cX5_remembers 22 = .ok (.bipush 40, 2) := by decide +kernel
theorem dX5_remembers_24 : decode cX5_remembers 24 = .ok (.if_icmp .ge 154, 3) := by decide +kernel
theorem dX5_remembers_27 : decode cX5_remembers 27 = .ok (.iload 4, 2) := by decide +kernel
theorem dX5_remembers_29 : decode cX5_remembers 29 = .ok (.ifCond .eq 149, 3) := by decide +kernel
theorem dX5_remembers_32 : decode cX5_remembers 32 = .ok (.aload_n 0, 1) := by decide +kernel
theorem dX5_remembers_33 : decode cX5_remembers 33 = .ok (.iload 5, 2) := by decide +kernel
theorem dX5_remembers_35 : decode cX5_remembers 35 = .ok (.invokevirtual 81, 3) := by decide +kernel
theorem dX5_remembers_38 : decode cX5_remembers 38 = .ok (.ifCond .lt 21, 3) := by decide +kernel
theorem dX5_remembers_41 : decode cX5_remembers 41 = .ok (.aload_n 0, 1) := by decide +kernel
theorem dX5_remembers_42 : decode cX5_remembers 42 = .ok (.iload 5, 2) := by decide +kernel
theorem dX5_remembers_44 : decode cX5_remembers 44 = .ok (.invokevirtual 185, 3) := by decide +kernel
theorem dX5_remembers_47 : decode cX5_remembers 47 = .ok (.aload_n 0, 1) := by decide +kernel
theorem dX5_remembers_48 : decode cX5_remembers 48 = .ok (.iload_n 1, 1) := by decide +kernel
theorem dX5_remembers_49 : decode cX5_remembers 49 = .ok (.invokevirtual 185, 3) := by decide +kernel
theorem dX5_remembers_52 : decode cX5_remembers 52 = .ok (.if_icmp .le 7, 3) := by decide +kernel
theorem dX5_remembers_55 : decode cX5_remembers 55 = .ok (.iconst 1, 1) := by decide +kernel
theorem dX5_remembers_56 : decode cX5_remembers 56 = .ok (.goto 4, 3) := by decide +kernel
theorem dX5_remembers_59 : decode cX5_remembers 59 = .ok (.iconst 0, 1) := by decide +kernel
theorem dX5_remembers_60 : decode cX5_remembers 60 = .ok (.istore 6, 2) := by decide +kernel
theorem dX5_remembers_62 : decode cX5_remembers 62 = .ok (.iconst 0, 1) := by decide +kernel
theorem dX5_remembers_63 : decode cX5_remembers 63 = .ok (.istore 7, 2) := by decide +kernel
theorem dX5_remembers_65 : decode cX5_remembers 65 = .ok (.iload 6, 2) := by decide +kernel
theorem dX5_remembers_67 : decode cX5_remembers 67 = .ok (.ifCond .eq 105, 3) := by decide +kernel
theorem dX5_remembers_70 : decode cX5_remembers 70 = .ok (.iload 7, 2) := by decide +kernel
theorem dX5_remembers_72 : decode cX5_remembers 72 = .ok (.aload_n 0, 1) := by decide +kernel
theorem dX5_remembers_73 : decode cX5_remembers 73 = .ok (.getfield 34, 3) := by decide +kernel
theorem dX5_remembers_76 : decode cX5_remembers 76 = .ok (.iload 5, 2) := by decide +kernel
theorem dX5_remembers_78 : decode cX5_remembers 78 = .ok (.iaload, 1) := by decide +kernel
theorem dX5_remembers_79 : decode cX5_remembers 79 = .ok (.if_icmp .ge 93, 3) := by decide +kernel
theorem dX5_remembers_82 : decode cX5_remembers 82 = .ok (.aload_n 0, 1) := by decide +kernel
theorem dX5_remembers_83 : decode cX5_remembers 83 = .ok (.getfield 37, 3) := by decide +kernel
theorem dX5_remembers_86 : decode cX5_remembers 86 = .ok (.bipush 16, 2) := by decide +kernel
theorem dX5_remembers_88 : decode cX5_remembers 88 = .ok (.iload 5, 2) := by decide +kernel
theorem dX5_remembers_90 : decode cX5_remembers 90 = .ok (.imul, 1) := by decide +kernel
theorem dX5_remembers_91 : decode cX5_remembers 91 = .ok (.iload 7, 2) := by decide +kernel
theorem dX5_remembers_93 : decode cX5_remembers 93 = .ok (.iadd, 1) := by decide +kernel
theorem dX5_remembers_94 : decode cX5_remembers 94 = .ok (.iaload, 1) := by decide +kernel
theorem dX5_remembers_95 : decode cX5_remembers 95 = .ok (.istore 8, 2) := by decide +kernel
theorem dX5_remembers_97 : decode cX5_remembers 97 = .ok (.iconst 0, 1) := by decide +kernel
theorem dX5_remembers_98 : decode cX5_remembers 98 = .ok (.istore 9, 2) := by decide +kernel
theorem dX5_remembers_100 : decode cX5_remembers 100 = .ok (.iload 9, 2) := by decide +kernel
theorem dX5_remembers_102 : decode cX5_remembers 102 = .ok (.aload_n 0, 1) := by decide +kernel
theorem dX5_remembers_103 : decode cX5_remembers 103 = .ok (.getfield 19, 3) := by decide +kernel
theorem dX5_remembers_106 : decode cX5_remembers 106 = .ok (.iload 8, 2) := by decide +kernel
theorem dX5_remembers_108 : decode cX5_remembers 108 = .ok (.iaload, 1) := by decide +kernel
theorem dX5_remembers_109 : decode cX5_remembers 109 = .ok (.if_icmp .ge 57, 3) := by decide +kernel
theorem dX5_remembers_112 : decode cX5_remembers 112 = .ok (.aload_n 0, 1) := by decide +kernel
theorem dX5_remembers_113 : decode cX5_remembers 113 = .ok (.getfield 25, 3) := by decide +kernel
theorem dX5_remembers_116 : decode cX5_remembers 116 = .ok (.bipush 12, 2) := by decide +kernel
theorem dX5_remembers_118 : decode cX5_remembers 118 = .ok (.iload 8, 2) := by decide +kernel
theorem dX5_remembers_120 : decode cX5_remembers 120 = .ok (.imul, 1) := by decide +kernel
theorem dX5_remembers_121 : decode cX5_remembers 121 = .ok (.iload 9, 2) := by decide +kernel
theorem dX5_remembers_123 : decode cX5_remembers 123 = .ok (.iadd, 1) := by decide +kernel
theorem dX5_remembers_124 : decode cX5_remembers 124 = .ok (.iaload, 1) := by decide +kernel
theorem dX5_remembers_125 : decode cX5_remembers 125 = .ok (.istore 10, 2) := by decide +kernel
theorem dX5_remembers_127 : decode cX5_remembers 127 = .ok (.iload 10, 2) := by decide +kernel
theorem dX5_remembers_129 : decode cX5_remembers 129 = .ok (.ifCond .lt 31, 3) := by decide +kernel
theorem dX5_remembers_132 : decode cX5_remembers 132 = .ok (.aload_n 0, 1) := by decide +kernel
theorem dX5_remembers_133 : decode cX5_remembers 133 = .ok (.getfield 13, 3) := by decide +kernel
theorem dX5_remembers_136 : decode cX5_remembers 136 = .ok (.iload 10, 2) := by decide +kernel
theorem dX5_remembers_138 : decode cX5_remembers 138 = .ok (.iaload, 1) := by decide +kernel
theorem dX5_remembers_139 : decode cX5_remembers 139 = .ok (.iload_n 1, 1) := by decide +kernel
theorem dX5_remembers_140 : decode cX5_remembers 140 = .ok (.if_icmp .ne 20, 3) := by decide +kernel
theorem dX5_remembers_143 : decode cX5_remembers 143 = .ok (.iload_n 3, 1) := by decide +kernel
theorem dX5_remembers_144 : decode cX5_remembers 144 = .ok (.iload_n 2, 1) := by decide +kernel
theorem dX5_remembers_145 : decode cX5_remembers 145 = .ok (.if_icmp .ne 12, 3) := by decide +kernel
theorem dX5_remembers_148 : decode cX5_remembers 148 = .ok (.aload_n 0, 1) := by decide +kernel
theorem dX5_remembers_149 : decode cX5_remembers 149 = .ok (.iload 8, 2) := by decide +kernel
theorem dX5_remembers_151 : decode cX5_remembers 151 = .ok (.iload 9, 2) := by decide +kernel
theorem dX5_remembers_153 : decode cX5_remembers 153 = .ok (.invokevirtual 188, 3) := by decide +kernel
theorem dX5_remembers_156 : decode cX5_remembers 156 = .ok (.ireturn, 1) := by decide +kernel
theorem dX5_remembers_157 : decode cX5_remembers 157 = .ok (.iinc 3 1, 3) := by decide +kernel
theorem dX5_remembers_160 : decode cX5_remembers 160 = .ok (.iinc 9 1, 3) := by decide +kernel
theorem dX5_remembers_163 : decode cX5_remembers 163 = .ok (.goto (-63), 3) := by decide +kernel
theorem dX5_remembers_166 : decode cX5_remembers 166 = .ok (.iinc 7 1, 3) := by decide +kernel
theorem dX5_remembers_169 : decode cX5_remembers 169 = .ok (.goto (-104), 3) := by decide +kernel
theorem dX5_remembers_172 : decode cX5_remembers 172 = .ok (.iinc 5 1, 3) := by decide +kernel
theorem dX5_remembers_175 : decode cX5_remembers 175 = .ok (.goto (-155), 3) := by decide +kernel
theorem dX5_remembers_178 : decode cX5_remembers 178 = .ok (.iconst (-1), 1) := by decide +kernel
theorem dX5_remembers_179 : decode cX5_remembers 179 = .ok (.iload_n 3, 1) := by decide +kernel
theorem dX5_remembers_180 : decode cX5_remembers 180 = .ok (.isub, 1) := by decide +kernel
theorem dX5_remembers_181 : decode cX5_remembers 181 = .ok (.ireturn, 1) := by decide +kernel
set_option maxRecDepth 20000 in
theorem ggX5_about_X5_trainOf : GoodIn wsX5_about wsX5_trainOf := goodIn_r _ [11, 12, 13, 14, 35, 36, 37, 38, 39, 40, 41, 42, 43, 44, 45, 46, 47, 48, 49, 50, 51, 52, 53, 54, 55, 56, 57, 58, 59, 60, 61, 62, 63, 64, 65] (by decide +kernel) (by decide +kernel)
set_option maxRecDepth 20000 in
theorem gX5_about_X5_trainOf : GoodIn wsX5_about (wsV RX5 81 RX5 yX5_trainOf wsX5_trainOf) := goodIn_app (goodIn_of _ (by decide +kernel)) ggX5_about_X5_trainOf
set_option maxRecDepth 20000 in
theorem ggX5_about_X5_remembers : GoodIn wsX5_about wsX5_remembers := goodIn_r _ [18, 4, 6, 19, 20, 21, 7, 8, 9, 10, 11, 12, 13, 14, 22, 23, 24, 25, 26, 27, 28, 29, 30, 31, 32, 33, 34, 35, 36, 37, 38, 39, 40, 41, 42, 43, 44, 45, 46, 47, 48, 49, 50, 51, 52, 53, 54, 55, 56, 57, 58, 59, 60, 61, 62, 63, 64, 65] (by decide +kernel) (by decide +kernel)
set_option maxRecDepth 20000 in
theorem gX5_about_X5_remembers : GoodIn wsX5_about (wsV RX5 191 RX5 yX5_remembers wsX5_remembers) := goodIn_app (goodIn_of _ (by decide +kernel)) ggX5_about_X5_remembers
theorem dX5_about_0 : decode cX5_about 0 = .ok (.aload_n 0, 1) := by decide +kernel
theorem dX5_about_1 : decode cX5_about 1 = .ok (.iload_n 1, 1) := by decide +kernel
theorem dX5_about_2 : decode cX5_about 2 = .ok (.ifCond .lt 18, 3) := by decide +kernel
theorem dX5_about_5 : decode cX5_about 5 = .ok (.iload_n 1, 1) := by decide +kernel
theorem dX5_about_6 : decode cX5_about 6 = .ok (.bipush 40, 2) := by decide +kernel
theorem dX5_about_8 : decode cX5_about 8 = .ok (.if_icmp .ge 12, 3) := by decide +kernel
theorem dX5_about_11 : decode cX5_about 11 = .ok (.iload_n 2, 1) := by decide +kernel
theorem dX5_about_12 : decode cX5_about 12 = .ok (.ifCond .lt 8, 3) := by decide +kernel
theorem dX5_about_15 : decode cX5_about 15 = .ok (.iload_n 2, 1) := by decide +kernel
theorem dX5_about_16 : decode cX5_about 16 = .ok (.iconst 4, 1) := by decide +kernel
theorem dX5_about_17 : decode cX5_about 17 = .ok (.if_icmp .le 7, 3) := by decide +kernel
theorem dX5_about_20 : decode cX5_about 20 = .ok (.iconst 1, 1) := by decide +kernel
theorem dX5_about_21 : decode cX5_about 21 = .ok (.goto 4, 3) := by decide +kernel
theorem dX5_about_24 : decode cX5_about 24 = .ok (.iconst 0, 1) := by decide +kernel
theorem dX5_about_25 : decode cX5_about 25 = .ok (.putfield 75, 3) := by decide +kernel
theorem dX5_about_28 : decode cX5_about 28 = .ok (.aload_n 0, 1) := by decide +kernel
theorem dX5_about_29 : decode cX5_about 29 = .ok (.getfield 75, 3) := by decide +kernel
theorem dX5_about_32 : decode cX5_about 32 = .ok (.ifCond .le 5, 3) := by decide +kernel
theorem dX5_about_35 : decode cX5_about 35 = .ok (.iconst 0, 1) := by decide +kernel
theorem dX5_about_36 : decode cX5_about 36 = .ok (.ireturn, 1) := by decide +kernel
theorem dX5_about_37 : decode cX5_about 37 = .ok (.aload_n 0, 1) := by decide +kernel
theorem dX5_about_38 : decode cX5_about 38 = .ok (.iload_n 1, 1) := by decide +kernel
theorem dX5_about_39 : decode cX5_about 39 = .ok (.invokevirtual 81, 3) := by decide +kernel
theorem dX5_about_42 : decode cX5_about 42 = .ok (.istore_n 3, 1) := by decide +kernel
theorem dX5_about_43 : decode cX5_about 43 = .ok (.iload_n 2, 1) := by decide +kernel
theorem dX5_about_44 : decode cX5_about 44 = .ok (.tableswitch 73 0 3 #[32, 47, 57, 64], 32) := by decide +kernel
theorem dX5_about_76 : decode cX5_about 76 = .ok (.iload_n 3, 1) := by decide +kernel
theorem dX5_about_77 : decode cX5_about 77 = .ok (.ifCond .ge 7, 3) := by decide +kernel
theorem dX5_about_80 : decode cX5_about 80 = .ok (.iconst 0, 1) := by decide +kernel
theorem dX5_about_81 : decode cX5_about 81 = .ok (.goto 9, 3) := by decide +kernel
theorem dX5_about_84 : decode cX5_about 84 = .ok (.aload_n 0, 1) := by decide +kernel
theorem dX5_about_85 : decode cX5_about 85 = .ok (.getfield 40, 3) := by decide +kernel
theorem dX5_about_88 : decode cX5_about 88 = .ok (.iload_n 3, 1) := by decide +kernel
theorem dX5_about_89 : decode cX5_about 89 = .ok (.iaload, 1) := by decide +kernel
theorem dX5_about_90 : decode cX5_about 90 = .ok (.ireturn, 1) := by decide +kernel
theorem dX5_about_91 : decode cX5_about 91 = .ok (.bipush 32, 2) := by decide +kernel
theorem dX5_about_93 : decode cX5_about 93 = .ok (.aload_n 0, 1) := by decide +kernel
theorem dX5_about_94 : decode cX5_about 94 = .ok (.getfield 31, 3) := by decide +kernel
theorem dX5_about_97 : decode cX5_about 97 = .ok (.iload_n 1, 1) := by decide +kernel
theorem dX5_about_98 : decode cX5_about 98 = .ok (.iaload, 1) := by decide +kernel
theorem dX5_about_99 : decode cX5_about 99 = .ok (.isub, 1) := by decide +kernel
theorem dX5_about_100 : decode cX5_about 100 = .ok (.ireturn, 1) := by decide +kernel
theorem dX5_about_101 : decode cX5_about 101 = .ok (.aload_n 0, 1) := by decide +kernel
theorem dX5_about_102 : decode cX5_about 102 = .ok (.getfield 34, 3) := by decide +kernel
theorem dX5_about_105 : decode cX5_about 105 = .ok (.iload_n 1, 1) := by decide +kernel
theorem dX5_about_106 : decode cX5_about 106 = .ok (.iaload, 1) := by decide +kernel
theorem dX5_about_107 : decode cX5_about 107 = .ok (.ireturn, 1) := by decide +kernel
theorem dX5_about_108 : decode cX5_about 108 = .ok (.iconst (-1), 1) := by decide +kernel
theorem dX5_about_109 : decode cX5_about 109 = .ok (.aload_n 0, 1) := by decide +kernel
theorem dX5_about_110 : decode cX5_about 110 = .ok (.iload_n 1, 1) := by decide +kernel
theorem dX5_about_111 : decode cX5_about 111 = .ok (.iconst (-1), 1) := by decide +kernel
theorem dX5_about_112 : decode cX5_about 112 = .ok (.invokevirtual 191, 3) := by decide +kernel
theorem dX5_about_115 : decode cX5_about 115 = .ok (.isub, 1) := by decide +kernel
theorem dX5_about_116 : decode cX5_about 116 = .ok (.ireturn, 1) := by decide +kernel
theorem dX5_about_117 : decode cX5_about 117 = .ok (.aload_n 0, 1) := by decide +kernel
theorem dX5_about_118 : decode cX5_about 118 = .ok (.getfield 34, 3) := by decide +kernel
theorem dX5_about_121 : decode cX5_about 121 = .ok (.iload_n 1, 1) := by decide +kernel
theorem dX5_about_122 : decode cX5_about 122 = .ok (.iaload, 1) := by decide +kernel
theorem dX5_about_123 : decode cX5_about 123 = .ok (.ifCond .ne 7, 3) := by decide +kernel
theorem dX5_about_126 : decode cX5_about 126 = .ok (.iconst 0, 1) := by decide +kernel
theorem dX5_about_127 : decode cX5_about 127 = .ok (.goto 26, 3) := by decide +kernel
theorem dX5_about_130 : decode cX5_about 130 = .ok (.aload_n 0, 1) := by decide +kernel
theorem dX5_about_131 : decode cX5_about 131 = .ok (.getfield 7, 3) := by decide +kernel
theorem dX5_about_134 : decode cX5_about 134 = .ok (.aload_n 0, 1) := by decide +kernel
theorem dX5_about_135 : decode cX5_about 135 = .ok (.getfield 37, 3) := by decide +kernel
theorem dX5_about_138 : decode cX5_about 138 = .ok (.bipush 16, 2) := by decide +kernel
theorem dX5_about_140 : decode cX5_about 140 = .ok (.iload_n 1, 1) := by decide +kernel
theorem dX5_about_141 : decode cX5_about 141 = .ok (.imul, 1) := by decide +kernel
theorem dX5_about_142 : decode cX5_about 142 = .ok (.aload_n 0, 1) := by decide +kernel
theorem dX5_about_143 : decode cX5_about 143 = .ok (.getfield 34, 3) := by decide +kernel
theorem dX5_about_146 : decode cX5_about 146 = .ok (.iload_n 1, 1) := by decide +kernel
theorem dX5_about_147 : decode cX5_about 147 = .ok (.iaload, 1) := by decide +kernel
theorem dX5_about_148 : decode cX5_about 148 = .ok (.iadd, 1) := by decide +kernel
theorem dX5_about_149 : decode cX5_about 149 = .ok (.iconst 1, 1) := by decide +kernel
theorem dX5_about_150 : decode cX5_about 150 = .ok (.isub, 1) := by decide +kernel
theorem dX5_about_151 : decode cX5_about 151 = .ok (.iaload, 1) := by decide +kernel
theorem dX5_about_152 : decode cX5_about 152 = .ok (.iaload, 1) := by decide +kernel
theorem dX5_about_153 : decode cX5_about 153 = .ok (.ireturn, 1) := by decide +kernel
set_option maxRecDepth 20000 in
theorem ggX5_remembered_X5_remembers : GoodIn wsX5_remembered wsX5_remembers := goodIn_r _ [6, 7, 8, 9, 10, 11, 12, 13, 14, 5, 15, 16, 17, 18, 19, 20, 21, 22, 23, 24, 25, 26, 27, 28, 29, 30, 31, 32, 33, 34, 35, 36, 37, 38, 39, 40, 41, 42, 43, 44, 45, 46, 47, 48, 49, 50, 51, 52, 53, 54, 55, 56, 57, 58, 59, 60, 61, 62] (by decide +kernel) (by decide +kernel)
set_option maxRecDepth 20000 in
theorem gX5_remembered_X5_remembers : GoodIn wsX5_remembered (wsV RX5 191 RX5 yX5_remembers wsX5_remembers) := goodIn_app (goodIn_of _ (by decide +kernel)) ggX5_remembered_X5_remembers
theorem dX5_remembered_0 : decode cX5_remembered 0 = .ok (.aload_n 0, 1) := by decide +kernel
theorem dX5_remembered_1 : decode cX5_remembered 1 = .ok (.iload_n 1, 1) := by decide +kernel
theorem dX5_remembered_2 : decode cX5_remembered 2 = .ok (.ifCond .lt 9, 3) := by decide +kernel
theorem dX5_remembered_5 : decode cX5_remembered 5 = .ok (.iload_n 1, 1) := by decide +kernel
theorem dX5_remembered_6 : decode cX5_remembered 6 = .ok (.bipush 40, 2) := by decide +kernel
theorem dX5_remembered_8 : decode cX5_remembered 8 = .ok (.if_icmp .lt 7, 3) := by decide +kernel
theorem dX5_remembered_11 : decode cX5_remembered 11 = .ok (.iconst 1, 1) := by decide +kernel
theorem dX5_remembered_12 : decode cX5_remembered 12 = .ok (.goto 4, 3) := by decide +kernel
theorem dX5_remembered_15 : decode cX5_remembered 15 = .ok (.iconst 0, 1) := by decide +kernel
theorem dX5_remembered_16 : decode cX5_remembered 16 = .ok (.putfield 75, 3) := by decide +kernel
theorem dX5_remembered_19 : decode cX5_remembered 19 = .ok (.aload_n 0, 1) := by decide +kernel
theorem dX5_remembered_20 : decode cX5_remembered 20 = .ok (.getfield 75, 3) := by decide +kernel
theorem dX5_remembered_23 : decode cX5_remembered 23 = .ok (.ifCond .gt 7, 3) := by decide +kernel
theorem dX5_remembered_26 : decode cX5_remembered 26 = .ok (.iload_n 2, 1) := by decide +kernel
theorem dX5_remembered_27 : decode cX5_remembered 27 = .ok (.ifCond .ge 16, 3) := by decide +kernel
theorem dX5_remembered_30 : decode cX5_remembered 30 = .ok (.aload_n 0, 1) := by decide +kernel
theorem dX5_remembered_31 : decode cX5_remembered 31 = .ok (.getfield 75, 3) := by decide +kernel
theorem dX5_remembered_34 : decode cX5_remembered 34 = .ok (.ifCond .le 7, 3) := by decide +kernel
theorem dX5_remembered_37 : decode cX5_remembered 37 = .ok (.iconst 0, 1) := by decide +kernel
theorem dX5_remembered_38 : decode cX5_remembered 38 = .ok (.goto 4, 3) := by decide +kernel
theorem dX5_remembered_41 : decode cX5_remembered 41 = .ok (.iconst (-1), 1) := by decide +kernel
theorem dX5_remembered_42 : decode cX5_remembered 42 = .ok (.ireturn, 1) := by decide +kernel
theorem dX5_remembered_43 : decode cX5_remembered 43 = .ok (.aload_n 0, 1) := by decide +kernel
theorem dX5_remembered_44 : decode cX5_remembered 44 = .ok (.iload_n 1, 1) := by decide +kernel
theorem dX5_remembered_45 : decode cX5_remembered 45 = .ok (.iload_n 2, 1) := by decide +kernel
theorem dX5_remembered_46 : decode cX5_remembered 46 = .ok (.invokevirtual 191, 3) := by decide +kernel
theorem dX5_remembered_49 : decode cX5_remembered 49 = .ok (.istore_n 3, 1) := by decide +kernel
theorem dX5_remembered_50 : decode cX5_remembered 50 = .ok (.iload_n 3, 1) := by decide +kernel
theorem dX5_remembered_51 : decode cX5_remembered 51 = .ok (.ifCond .ge 7, 3) := by decide +kernel
theorem dX5_remembered_54 : decode cX5_remembered 54 = .ok (.iconst (-1), 1) := by decide +kernel
theorem dX5_remembered_55 : decode cX5_remembered 55 = .ok (.goto 4, 3) := by decide +kernel
theorem dX5_remembered_58 : decode cX5_remembered 58 = .ok (.iload_n 3, 1) := by decide +kernel
theorem dX5_remembered_59 : decode cX5_remembered 59 = .ok (.ireturn, 1) := by decide +kernel
set_option maxRecDepth 20000 in
theorem ggX5_word_X5_wordsOf : GoodIn wsX5_word wsX5_wordsOf := goodIn_r _ [14, 5, 8, 20, 21, 22, 23, 24, 25, 26, 27, 28, 29, 30, 31, 32, 33, 34, 35, 36, 37, 38, 39, 40, 41, 42, 43, 44, 45, 46, 47, 48, 49, 50] (by decide +kernel) (by decide +kernel)
set_option maxRecDepth 20000 in
theorem gX5_word_X5_wordsOf : GoodIn wsX5_word (wsV RX5 96 RX5 yX5_wordsOf wsX5_wordsOf) := goodIn_app (goodIn_of _ (by decide +kernel)) ggX5_word_X5_wordsOf
set_option maxRecDepth 20000 in
theorem ggX5_word_X5_place : GoodIn wsX5_word wsX5_place := goodIn_r _ [18, 19, 4, 20, 21, 22, 23, 24, 25, 26, 27, 28, 29, 30, 31, 32, 33, 34, 35, 36, 37, 38, 39, 40, 41, 42, 43, 44, 45, 46, 47, 48, 49, 50] (by decide +kernel) (by decide +kernel)
set_option maxRecDepth 20000 in
theorem gX5_word_X5_place : GoodIn wsX5_word (wsV RX5 106 RX5 yX5_place wsX5_place) := goodIn_app (goodIn_of _ (by decide +kernel)) ggX5_word_X5_place
theorem dX5_word_0 : decode cX5_word 0 = .ok (.aload_n 0, 1) := by decide +kernel
theorem dX5_word_1 : decode cX5_word 1 = .ok (.iload_n 1, 1) := by decide +kernel
theorem dX5_word_2 : decode cX5_word 2 = .ok (.ifCond .lt 10, 3) := by decide +kernel
theorem dX5_word_5 : decode cX5_word 5 = .ok (.iload_n 1, 1) := by decide +kernel
theorem dX5_word_6 : decode cX5_word 6 = .ok (.sipush 1280, 3) := by decide +kernel
theorem dX5_word_9 : decode cX5_word 9 = .ok (.if_icmp .lt 7, 3) := by decide +kernel
theorem dX5_word_12 : decode cX5_word 12 = .ok (.iconst 1, 1) := by decide +kernel
theorem dX5_word_13 : decode cX5_word 13 = .ok (.goto 4, 3) := by decide +kernel
theorem dX5_word_16 : decode cX5_word 16 = .ok (.iconst 0, 1) := by decide +kernel
theorem dX5_word_17 : decode cX5_word 17 = .ok (.putfield 75, 3) := by decide +kernel
theorem dX5_word_20 : decode cX5_word 20 = .ok (.aload_n 0, 1) := by decide +kernel
theorem dX5_word_21 : decode cX5_word 21 = .ok (.getfield 75, 3) := by decide +kernel
theorem dX5_word_24 : decode cX5_word 24 = .ok (.ifCond .le 5, 3) := by decide +kernel
theorem dX5_word_27 : decode cX5_word 27 = .ok (.iconst 0, 1) := by decide +kernel
theorem dX5_word_28 : decode cX5_word 28 = .ok (.ireturn, 1) := by decide +kernel
theorem dX5_word_29 : decode cX5_word 29 = .ok (.iload_n 1, 1) := by decide +kernel
theorem dX5_word_30 : decode cX5_word 30 = .ok (.bipush 32, 2) := by decide +kernel
theorem dX5_word_32 : decode cX5_word 32 = .ok (.idiv, 1) := by decide +kernel
theorem dX5_word_33 : decode cX5_word 33 = .ok (.istore_n 2, 1) := by decide +kernel
theorem dX5_word_34 : decode cX5_word 34 = .ok (.iload_n 1, 1) := by decide +kernel
theorem dX5_word_35 : decode cX5_word 35 = .ok (.bipush 32, 2) := by decide +kernel
theorem dX5_word_37 : decode cX5_word 37 = .ok (.irem, 1) := by decide +kernel
theorem dX5_word_38 : decode cX5_word 38 = .ok (.istore_n 3, 1) := by decide +kernel
theorem dX5_word_39 : decode cX5_word 39 = .ok (.iconst 0, 1) := by decide +kernel
theorem dX5_word_40 : decode cX5_word 40 = .ok (.istore 4, 2) := by decide +kernel
theorem dX5_word_42 : decode cX5_word 42 = .ok (.iload 4, 2) := by decide +kernel
theorem dX5_word_44 : decode cX5_word 44 = .ok (.aload_n 0, 1) := by decide +kernel
theorem dX5_word_45 : decode cX5_word 45 = .ok (.getfield 34, 3) := by decide +kernel
theorem dX5_word_48 : decode cX5_word 48 = .ok (.iload_n 2, 1) := by decide +kernel
theorem dX5_word_49 : decode cX5_word 49 = .ok (.iaload, 1) := by decide +kernel
theorem dX5_word_50 : decode cX5_word 50 = .ok (.if_icmp .ge 186, 3) := by decide +kernel
theorem dX5_word_53 : decode cX5_word 53 = .ok (.aload_n 0, 1) := by decide +kernel
theorem dX5_word_54 : decode cX5_word 54 = .ok (.getfield 37, 3) := by decide +kernel
theorem dX5_word_57 : decode cX5_word 57 = .ok (.bipush 16, 2) := by decide +kernel
theorem dX5_word_59 : decode cX5_word 59 = .ok (.iload_n 2, 1) := by decide +kernel
theorem dX5_word_60 : decode cX5_word 60 = .ok (.imul, 1) := by decide +kernel
theorem dX5_word_61 : decode cX5_word 61 = .ok (.iload 4, 2) := by decide +kernel
theorem dX5_word_63 : decode cX5_word 63 = .ok (.iadd, 1) := by decide +kernel
theorem dX5_word_64 : decode cX5_word 64 = .ok (.iaload, 1) := by decide +kernel
theorem dX5_word_65 : decode cX5_word 65 = .ok (.istore 5, 2) := by decide +kernel
theorem dX5_word_67 : decode cX5_word 67 = .ok (.iload_n 3, 1) := by decide +kernel
theorem dX5_word_68 : decode cX5_word 68 = .ok (.aload_n 0, 1) := by decide +kernel
theorem dX5_word_69 : decode cX5_word 69 = .ok (.getfield 16, 3) := by decide +kernel
theorem dX5_word_72 : decode cX5_word 72 = .ok (.iload 5, 2) := by decide +kernel
theorem dX5_word_74 : decode cX5_word 74 = .ok (.iaload, 1) := by decide +kernel
theorem dX5_word_75 : decode cX5_word 75 = .ok (.isub, 1) := by decide +kernel
theorem dX5_word_76 : decode cX5_word 76 = .ok (.istore 6, 2) := by decide +kernel
theorem dX5_word_78 : decode cX5_word 78 = .ok (.iload 6, 2) := by decide +kernel
theorem dX5_word_80 : decode cX5_word 80 = .ok (.ifCond .lt 150, 3) := by decide +kernel
theorem dX5_word_83 : decode cX5_word 83 = .ok (.iload 6, 2) := by decide +kernel
theorem dX5_word_85 : decode cX5_word 85 = .ok (.aload_n 0, 1) := by decide +kernel
theorem dX5_word_86 : decode cX5_word 86 = .ok (.iload 5, 2) := by decide +kernel
theorem dX5_word_88 : decode cX5_word 88 = .ok (.invokevirtual 96, 3) := by decide +kernel
theorem dX5_word_91 : decode cX5_word 91 = .ok (.if_icmp .ge 139, 3) := by decide +kernel
theorem dX5_word_94 : decode cX5_word 94 = .ok (.iload 6, 2) := by decide +kernel
theorem dX5_word_96 : decode cX5_word 96 = .ok (.iconst 2, 1) := by decide +kernel
theorem dX5_word_97 : decode cX5_word 97 = .ok (.isub, 1) := by decide +kernel
theorem dX5_word_98 : decode cX5_word 98 = .ok (.istore 7, 2) := by decide +kernel
theorem dX5_word_100 : decode cX5_word 100 = .ok (.iload 7, 2) := by decide +kernel
theorem dX5_word_102 : decode cX5_word 102 = .ok (.ifCond .lt 31, 3) := by decide +kernel
theorem dX5_word_105 : decode cX5_word 105 = .ok (.iload 7, 2) := by decide +kernel
theorem dX5_word_107 : decode cX5_word 107 = .ok (.aload_n 0, 1) := by decide +kernel
theorem dX5_word_108 : decode cX5_word 108 = .ok (.getfield 19, 3) := by decide +kernel
theorem dX5_word_111 : decode cX5_word 111 = .ok (.iload 5, 2) := by decide +kernel
theorem dX5_word_113 : decode cX5_word 113 = .ok (.iaload, 1) := by decide +kernel
theorem dX5_word_114 : decode cX5_word 114 = .ok (.if_icmp .ge 19, 3) := by decide +kernel
theorem dX5_word_117 : decode cX5_word 117 = .ok (.aload_n 0, 1) := by decide +kernel
theorem dX5_word_118 : decode cX5_word 118 = .ok (.getfield 25, 3) := by decide +kernel
theorem dX5_word_121 : decode cX5_word 121 = .ok (.bipush 12, 2) := by decide +kernel
theorem dX5_word_123 : decode cX5_word 123 = .ok (.iload 5, 2) := by decide +kernel
theorem dX5_word_125 : decode cX5_word 125 = .ok (.imul, 1) := by decide +kernel
theorem dX5_word_126 : decode cX5_word 126 = .ok (.iload 7, 2) := by decide +kernel
theorem dX5_word_128 : decode cX5_word 128 = .ok (.iadd, 1) := by decide +kernel
theorem dX5_word_129 : decode cX5_word 129 = .ok (.iaload, 1) := by decide +kernel
theorem dX5_word_130 : decode cX5_word 130 = .ok (.goto 4, 3) := by decide +kernel
theorem dX5_word_133 : decode cX5_word 133 = .ok (.iconst (-1), 1) := by decide +kernel
theorem dX5_word_134 : decode cX5_word 134 = .ok (.istore 8, 2) := by decide +kernel
theorem dX5_word_136 : decode cX5_word 136 = .ok (.iload 6, 2) := by decide +kernel
theorem dX5_word_138 : decode cX5_word 138 = .ok (.ifCond .ne 13, 3) := by decide +kernel
theorem dX5_word_141 : decode cX5_word 141 = .ok (.aload_n 0, 1) := by decide +kernel
theorem dX5_word_142 : decode cX5_word 142 = .ok (.getfield 7, 3) := by decide +kernel
theorem dX5_word_145 : decode cX5_word 145 = .ok (.iload 5, 2) := by decide +kernel
theorem dX5_word_147 : decode cX5_word 147 = .ok (.iaload, 1) := by decide +kernel
theorem dX5_word_148 : decode cX5_word 148 = .ok (.goto 81, 3) := by decide +kernel
theorem dX5_word_151 : decode cX5_word 151 = .ok (.iload 6, 2) := by decide +kernel
theorem dX5_word_153 : decode cX5_word 153 = .ok (.iconst 1, 1) := by decide +kernel
theorem dX5_word_154 : decode cX5_word 154 = .ok (.if_icmp .ne 24, 3) := by decide +kernel
theorem dX5_word_157 : decode cX5_word 157 = .ok (.aload_n 0, 1) := by decide +kernel
theorem dX5_word_158 : decode cX5_word 158 = .ok (.getfield 19, 3) := by decide +kernel
theorem dX5_word_161 : decode cX5_word 161 = .ok (.iload 5, 2) := by decide +kernel
theorem dX5_word_163 : decode cX5_word 163 = .ok (.iaload, 1) := by decide +kernel
theorem dX5_word_164 : decode cX5_word 164 = .ok (.bipush 16, 2) := by decide +kernel
theorem dX5_word_166 : decode cX5_word 166 = .ok (.aload_n 0, 1) := by decide +kernel
theorem dX5_word_167 : decode cX5_word 167 = .ok (.getfield 22, 3) := by decide +kernel
theorem dX5_word_170 : decode cX5_word 170 = .ok (.iload 5, 2) := by decide +kernel
theorem dX5_word_172 : decode cX5_word 172 = .ok (.iaload, 1) := by decide +kernel
theorem dX5_word_173 : decode cX5_word 173 = .ok (.imul, 1) := by decide +kernel
theorem dX5_word_174 : decode cX5_word 174 = .ok (.iadd, 1) := by decide +kernel
theorem dX5_word_175 : decode cX5_word 175 = .ok (.goto 54, 3) := by decide +kernel
theorem dX5_word_178 : decode cX5_word 178 = .ok (.iload 7, 2) := by decide +kernel
theorem dX5_word_180 : decode cX5_word 180 = .ok (.aload_n 0, 1) := by decide +kernel
theorem dX5_word_181 : decode cX5_word 181 = .ok (.getfield 19, 3) := by decide +kernel
theorem dX5_word_184 : decode cX5_word 184 = .ok (.iload 5, 2) := by decide +kernel
theorem dX5_word_186 : decode cX5_word 186 = .ok (.iaload, 1) := by decide +kernel
theorem dX5_word_187 : decode cX5_word 187 = .ok (.if_icmp .lt 27, 3) := by decide +kernel
theorem dX5_word_190 : decode cX5_word 190 = .ok (.aload_n 0, 1) := by decide +kernel
theorem dX5_word_191 : decode cX5_word 191 = .ok (.getfield 28, 3) := by decide +kernel
theorem dX5_word_194 : decode cX5_word 194 = .ok (.bipush 12, 2) := by decide +kernel
theorem dX5_word_196 : decode cX5_word 196 = .ok (.iload 5, 2) := by decide +kernel
theorem dX5_word_198 : decode cX5_word 198 = .ok (.imul, 1) := by decide +kernel
theorem dX5_word_199 : decode cX5_word 199 = .ok (.iload 7, 2) := by decide +kernel
theorem dX5_word_201 : decode cX5_word 201 = .ok (.iadd, 1) := by decide +kernel
theorem dX5_word_202 : decode cX5_word 202 = .ok (.aload_n 0, 1) := by decide +kernel
theorem dX5_word_203 : decode cX5_word 203 = .ok (.getfield 19, 3) := by decide +kernel
theorem dX5_word_206 : decode cX5_word 206 = .ok (.iload 5, 2) := by decide +kernel
theorem dX5_word_208 : decode cX5_word 208 = .ok (.iaload, 1) := by decide +kernel
theorem dX5_word_209 : decode cX5_word 209 = .ok (.isub, 1) := by decide +kernel
theorem dX5_word_210 : decode cX5_word 210 = .ok (.iaload, 1) := by decide +kernel
theorem dX5_word_211 : decode cX5_word 211 = .ok (.goto 18, 3) := by decide +kernel
theorem dX5_word_214 : decode cX5_word 214 = .ok (.iload 8, 2) := by decide +kernel
theorem dX5_word_216 : decode cX5_word 216 = .ok (.ifCond .ge 7, 3) := by decide +kernel
theorem dX5_word_219 : decode cX5_word 219 = .ok (.iconst (-1), 1) := by decide +kernel
theorem dX5_word_220 : decode cX5_word 220 = .ok (.goto 9, 3) := by decide +kernel
theorem dX5_word_223 : decode cX5_word 223 = .ok (.aload_n 0, 1) := by decide +kernel
theorem dX5_word_224 : decode cX5_word 224 = .ok (.iload 8, 2) := by decide +kernel
theorem dX5_word_226 : decode cX5_word 226 = .ok (.invokevirtual 106, 3) := by decide +kernel
theorem dX5_word_229 : decode cX5_word 229 = .ok (.ireturn, 1) := by decide +kernel
theorem dX5_word_230 : decode cX5_word 230 = .ok (.iinc 4 1, 3) := by decide +kernel
theorem dX5_word_233 : decode cX5_word 233 = .ok (.goto (-191), 3) := by decide +kernel
theorem dX5_word_236 : decode cX5_word 236 = .ok (.iconst 0, 1) := by decide +kernel
theorem dX5_word_237 : decode cX5_word 237 = .ok (.ireturn, 1) := by decide +kernel
theorem dX5_reached_0 : decode cX5_reached 0 = .ok (.aload_n 0, 1) := by decide +kernel
theorem dX5_reached_1 : decode cX5_reached 1 = .ok (.iconst 0, 1) := by decide +kernel
theorem dX5_reached_2 : decode cX5_reached 2 = .ok (.putfield 75, 3) := by decide +kernel
theorem dX5_reached_5 : decode cX5_reached 5 = .ok (.iconst 0, 1) := by decide +kernel
theorem dX5_reached_6 : decode cX5_reached 6 = .ok (.istore_n 1, 1) := by decide +kernel
theorem dX5_reached_7 : decode cX5_reached 7 = .ok (.iconst 0, 1) := by decide +kernel
theorem dX5_reached_8 : decode cX5_reached 8 = .ok (.istore_n 2, 1) := by decide +kernel
theorem dX5_reached_9 : decode cX5_reached 9 = .ok (.iload_n 2, 1) := by decide +kernel
theorem dX5_reached_10 : decode cX5_reached 10 = .ok (.sipush 640, 3) := by decide +kernel
theorem dX5_reached_13 : decode cX5_reached 13 = .ok (.if_icmp .ge 16, 3) := by decide +kernel
theorem dX5_reached_16 : decode cX5_reached 16 = .ok (.aload_n 0, 1) := by decide +kernel
theorem dX5_reached_17 : decode cX5_reached 17 = .ok (.getfield 72, 3) := by decide +kernel
theorem dX5_reached_20 : decode cX5_reached 20 = .ok (.iload_n 2, 1) := by decide +kernel
theorem dX5_reached_21 : decode cX5_reached 21 = .ok (.iconst 0, 1) := by decide +kernel
theorem dX5_reached_22 : decode cX5_reached 22 = .ok (.bastore, 1) := by decide +kernel
theorem dX5_reached_23 : decode cX5_reached 23 = .ok (.iinc 2 1, 3) := by decide +kernel
theorem dX5_reached_26 : decode cX5_reached 26 = .ok (.goto (-17), 3) := by decide +kernel
theorem dX5_reached_29 : decode cX5_reached 29 = .ok (.iconst 0, 1) := by decide +kernel
theorem dX5_reached_30 : decode cX5_reached 30 = .ok (.istore_n 2, 1) := by decide +kernel
theorem dX5_reached_31 : decode cX5_reached 31 = .ok (.iload_n 2, 1) := by decide +kernel
theorem dX5_reached_32 : decode cX5_reached 32 = .ok (.bipush 16, 2) := by decide +kernel
theorem dX5_reached_34 : decode cX5_reached 34 = .ok (.if_icmp .ge 46, 3) := by decide +kernel
theorem dX5_reached_37 : decode cX5_reached 37 = .ok (.aload_n 0, 1) := by decide +kernel
theorem dX5_reached_38 : decode cX5_reached 38 = .ok (.getfield 49, 3) := by decide +kernel
theorem dX5_reached_41 : decode cX5_reached 41 = .ok (.iload_n 2, 1) := by decide +kernel
theorem dX5_reached_42 : decode cX5_reached 42 = .ok (.iaload, 1) := by decide +kernel
theorem dX5_reached_43 : decode cX5_reached 43 = .ok (.istore_n 3, 1) := by decide +kernel
theorem dX5_reached_44 : decode cX5_reached 44 = .ok (.iload_n 3, 1) := by decide +kernel
theorem dX5_reached_45 : decode cX5_reached 45 = .ok (.ifCond .lt 29, 3) := by decide +kernel
theorem dX5_reached_48 : decode cX5_reached 48 = .ok (.aload_n 0, 1) := by decide +kernel
theorem dX5_reached_49 : decode cX5_reached 49 = .ok (.getfield 72, 3) := by decide +kernel
theorem dX5_reached_52 : decode cX5_reached 52 = .ok (.iload_n 3, 1) := by decide +kernel
theorem dX5_reached_53 : decode cX5_reached 53 = .ok (.baload, 1) := by decide +kernel
theorem dX5_reached_54 : decode cX5_reached 54 = .ok (.ifCond .ne 20, 3) := by decide +kernel
theorem dX5_reached_57 : decode cX5_reached 57 = .ok (.aload_n 0, 1) := by decide +kernel
theorem dX5_reached_58 : decode cX5_reached 58 = .ok (.getfield 72, 3) := by decide +kernel
theorem dX5_reached_61 : decode cX5_reached 61 = .ok (.iload_n 3, 1) := by decide +kernel
theorem dX5_reached_62 : decode cX5_reached 62 = .ok (.iconst 1, 1) := by decide +kernel
theorem dX5_reached_63 : decode cX5_reached 63 = .ok (.bastore, 1) := by decide +kernel
theorem dX5_reached_64 : decode cX5_reached 64 = .ok (.aload_n 0, 1) := by decide +kernel
theorem dX5_reached_65 : decode cX5_reached 65 = .ok (.getfield 59, 3) := by decide +kernel
theorem dX5_reached_68 : decode cX5_reached 68 = .ok (.iload_n 1, 1) := by decide +kernel
theorem dX5_reached_69 : decode cX5_reached 69 = .ok (.iload_n 3, 1) := by decide +kernel
theorem dX5_reached_70 : decode cX5_reached 70 = .ok (.iastore, 1) := by decide +kernel
theorem dX5_reached_71 : decode cX5_reached 71 = .ok (.iinc 1 1, 3) := by decide +kernel
theorem dX5_reached_74 : decode cX5_reached 74 = .ok (.iinc 2 1, 3) := by decide +kernel
theorem dX5_reached_77 : decode cX5_reached 77 = .ok (.goto (-46), 3) := by decide +kernel
theorem dX5_reached_80 : decode cX5_reached 80 = .ok (.iconst 0, 1) := by decide +kernel
theorem dX5_reached_81 : decode cX5_reached 81 = .ok (.istore_n 2, 1) := by decide +kernel
theorem dX5_reached_82 : decode cX5_reached 82 = .ok (.iload_n 2, 1) := by decide +kernel
theorem dX5_reached_83 : decode cX5_reached 83 = .ok (.iload_n 1, 1) := by decide +kernel
theorem dX5_reached_84 : decode cX5_reached 84 = .ok (.if_icmp .ge 84, 3) := by decide +kernel
theorem dX5_reached_87 : decode cX5_reached 87 = .ok (.iconst 0, 1) := by decide +kernel
theorem dX5_reached_88 : decode cX5_reached 88 = .ok (.istore_n 3, 1) := by decide +kernel
theorem dX5_reached_89 : decode cX5_reached 89 = .ok (.iload_n 3, 1) := by decide +kernel
theorem dX5_reached_90 : decode cX5_reached 90 = .ok (.aload_n 0, 1) := by decide +kernel
theorem dX5_reached_91 : decode cX5_reached 91 = .ok (.getfield 19, 3) := by decide +kernel
theorem dX5_reached_94 : decode cX5_reached 94 = .ok (.aload_n 0, 1) := by decide +kernel
theorem dX5_reached_95 : decode cX5_reached 95 = .ok (.getfield 59, 3) := by decide +kernel
theorem dX5_reached_98 : decode cX5_reached 98 = .ok (.iload_n 2, 1) := by decide +kernel
theorem dX5_reached_99 : decode cX5_reached 99 = .ok (.iaload, 1) := by decide +kernel
theorem dX5_reached_100 : decode cX5_reached 100 = .ok (.iaload, 1) := by decide +kernel
theorem dX5_reached_101 : decode cX5_reached 101 = .ok (.if_icmp .ge 61, 3) := by decide +kernel
theorem dX5_reached_104 : decode cX5_reached 104 = .ok (.aload_n 0, 1) := by decide +kernel
theorem dX5_reached_105 : decode cX5_reached 105 = .ok (.getfield 25, 3) := by decide +kernel
theorem dX5_reached_108 : decode cX5_reached 108 = .ok (.bipush 12, 2) := by decide +kernel
theorem dX5_reached_110 : decode cX5_reached 110 = .ok (.aload_n 0, 1) := by decide +kernel
theorem dX5_reached_111 : decode cX5_reached 111 = .ok (.getfield 59, 3) := by decide +kernel
theorem dX5_reached_114 : decode cX5_reached 114 = .ok (.iload_n 2, 1) := by decide +kernel
theorem dX5_reached_115 : decode cX5_reached 115 = .ok (.iaload, 1) := by decide +kernel
theorem dX5_reached_116 : decode cX5_reached 116 = .ok (.imul, 1) := by decide +kernel
theorem dX5_reached_117 : decode cX5_reached 117 = .ok (.iload_n 3, 1) := by decide +kernel
theorem dX5_reached_118 : decode cX5_reached 118 = .ok (.iadd, 1) := by decide +kernel
theorem dX5_reached_119 : decode cX5_reached 119 = .ok (.iaload, 1) := by decide +kernel
theorem dX5_reached_120 : decode cX5_reached 120 = .ok (.istore 4, 2) := by decide +kernel
theorem dX5_reached_122 : decode cX5_reached 122 = .ok (.iload 4, 2) := by decide +kernel
theorem dX5_reached_124 : decode cX5_reached 124 = .ok (.ifCond .lt 32, 3) := by decide +kernel
theorem dX5_reached_127 : decode cX5_reached 127 = .ok (.aload_n 0, 1) := by decide +kernel
theorem dX5_reached_128 : decode cX5_reached 128 = .ok (.getfield 72, 3) := by decide +kernel
theorem dX5_reached_131 : decode cX5_reached 131 = .ok (.iload 4, 2) := by decide +kernel
theorem dX5_reached_133 : decode cX5_reached 133 = .ok (.baload, 1) := by decide +kernel
theorem dX5_reached_134 : decode cX5_reached 134 = .ok (.ifCond .ne 22, 3) := by decide +kernel
theorem dX5_reached_137 : decode cX5_reached 137 = .ok (.aload_n 0, 1) := by decide +kernel
theorem dX5_reached_138 : decode cX5_reached 138 = .ok (.getfield 72, 3) := by decide +kernel
theorem dX5_reached_141 : decode cX5_reached 141 = .ok (.iload 4, 2) := by decide +kernel
theorem dX5_reached_143 : decode cX5_reached 143 = .ok (.iconst 1, 1) := by decide +kernel
theorem dX5_reached_144 : decode cX5_reached 144 = .ok (.bastore, 1) := by decide +kernel
theorem dX5_reached_145 : decode cX5_reached 145 = .ok (.aload_n 0, 1) := by decide +kernel
theorem dX5_reached_146 : decode cX5_reached 146 = .ok (.getfield 59, 3) := by decide +kernel
theorem dX5_reached_149 : decode cX5_reached 149 = .ok (.iload_n 1, 1) := by decide +kernel
theorem dX5_reached_150 : decode cX5_reached 150 = .ok (.iload 4, 2) := by decide +kernel
theorem dX5_reached_152 : decode cX5_reached 152 = .ok (.iastore, 1) := by decide +kernel
theorem dX5_reached_153 : decode cX5_reached 153 = .ok (.iinc 1 1, 3) := by decide +kernel
theorem dX5_reached_156 : decode cX5_reached 156 = .ok (.iinc 3 1, 3) := by decide +kernel
theorem dX5_reached_159 : decode cX5_reached 159 = .ok (.goto (-70), 3) := by decide +kernel
theorem dX5_reached_162 : decode cX5_reached 162 = .ok (.iinc 2 1, 3) := by decide +kernel
theorem dX5_reached_165 : decode cX5_reached 165 = .ok (.goto (-83), 3) := by decide +kernel
theorem dX5_reached_168 : decode cX5_reached 168 = .ok (.iload_n 1, 1) := by decide +kernel
theorem dX5_reached_169 : decode cX5_reached 169 = .ok (.ireturn, 1) := by decide +kernel
set_option maxRecDepth 20000 in
theorem ggX5_told_X5_freeCars : GoodIn wsX5_told wsX5_freeCars := goodIn_r _ [15, 3, 16, 17, 18, 19, 20, 21, 22, 23, 24, 25, 26, 27, 28, 29, 30, 31, 32, 33, 34, 35, 36, 37, 38, 39, 40, 41, 42, 43, 44, 45, 46, 47] (by decide +kernel) (by decide +kernel)
set_option maxRecDepth 20000 in
theorem gX5_told_X5_freeCars : GoodIn wsX5_told (wsV RX5 161 RX5 yX5_freeCars wsX5_freeCars) := goodIn_app (goodIn_of _ (by decide +kernel)) ggX5_told_X5_freeCars
theorem dX5_told_0 : decode cX5_told 0 = .ok (.aload_n 0, 1) := by decide +kernel
theorem dX5_told_1 : decode cX5_told 1 = .ok (.iload_n 1, 1) := by decide +kernel
theorem dX5_told_2 : decode cX5_told 2 = .ok (.ifCond .lt 9, 3) := by decide +kernel
theorem dX5_told_5 : decode cX5_told 5 = .ok (.iload_n 1, 1) := by decide +kernel
theorem dX5_told_6 : decode cX5_told 6 = .ok (.bipush 9, 2) := by decide +kernel
theorem dX5_told_8 : decode cX5_told 8 = .ok (.if_icmp .le 7, 3) := by decide +kernel
theorem dX5_told_11 : decode cX5_told 11 = .ok (.iconst 1, 1) := by decide +kernel
theorem dX5_told_12 : decode cX5_told 12 = .ok (.goto 4, 3) := by decide +kernel
theorem dX5_told_15 : decode cX5_told 15 = .ok (.iconst 0, 1) := by decide +kernel
theorem dX5_told_16 : decode cX5_told 16 = .ok (.putfield 75, 3) := by decide +kernel
theorem dX5_told_19 : decode cX5_told 19 = .ok (.aload_n 0, 1) := by decide +kernel
theorem dX5_told_20 : decode cX5_told 20 = .ok (.getfield 75, 3) := by decide +kernel
theorem dX5_told_23 : decode cX5_told 23 = .ok (.ifCond .le 5, 3) := by decide +kernel
theorem dX5_told_26 : decode cX5_told 26 = .ok (.iconst 0, 1) := by decide +kernel
theorem dX5_told_27 : decode cX5_told 27 = .ok (.ireturn, 1) := by decide +kernel
theorem dX5_told_28 : decode cX5_told 28 = .ok (.iconst 0, 1) := by decide +kernel
theorem dX5_told_29 : decode cX5_told 29 = .ok (.istore_n 2, 1) := by decide +kernel
theorem dX5_told_30 : decode cX5_told 30 = .ok (.iconst 0, 1) := by decide +kernel
theorem dX5_told_31 : decode cX5_told 31 = .ok (.istore_n 3, 1) := by decide +kernel
theorem dX5_told_32 : decode cX5_told 32 = .ok (.iload_n 3, 1) := by decide +kernel
theorem dX5_told_33 : decode cX5_told 33 = .ok (.sipush 640, 3) := by decide +kernel
theorem dX5_told_36 : decode cX5_told 36 = .ok (.if_icmp .ge 26, 3) := by decide +kernel
theorem dX5_told_39 : decode cX5_told 39 = .ok (.iload_n 2, 1) := by decide +kernel
theorem dX5_told_40 : decode cX5_told 40 = .ok (.aload_n 0, 1) := by decide +kernel
theorem dX5_told_41 : decode cX5_told 41 = .ok (.getfield 7, 3) := by decide +kernel
theorem dX5_told_44 : decode cX5_told 44 = .ok (.iload_n 3, 1) := by decide +kernel
theorem dX5_told_45 : decode cX5_told 45 = .ok (.iaload, 1) := by decide +kernel
theorem dX5_told_46 : decode cX5_told 46 = .ok (.ifCond .le 7, 3) := by decide +kernel
theorem dX5_told_49 : decode cX5_told 49 = .ok (.iconst 1, 1) := by decide +kernel
theorem dX5_told_50 : decode cX5_told 50 = .ok (.goto 4, 3) := by decide +kernel
theorem dX5_told_53 : decode cX5_told 53 = .ok (.iconst 0, 1) := by decide +kernel
theorem dX5_told_54 : decode cX5_told 54 = .ok (.iadd, 1) := by decide +kernel
theorem dX5_told_55 : decode cX5_told 55 = .ok (.istore_n 2, 1) := by decide +kernel
theorem dX5_told_56 : decode cX5_told 56 = .ok (.iinc 3 1, 3) := by decide +kernel
theorem dX5_told_59 : decode cX5_told 59 = .ok (.goto (-27), 3) := by decide +kernel
theorem dX5_told_62 : decode cX5_told 62 = .ok (.iload_n 1, 1) := by decide +kernel
theorem dX5_told_63 : decode cX5_told 63 = .ok (.tableswitch 91 0 8 #[49, 54, 59, 61, 66, 71, 76, 81, 86], 49) := by decide +kernel
theorem dX5_told_112 : decode cX5_told 112 = .ok (.aload_n 0, 1) := by decide +kernel
theorem dX5_told_113 : decode cX5_told 113 = .ok (.getfield 78, 3) := by decide +kernel
theorem dX5_told_116 : decode cX5_told 116 = .ok (.ireturn, 1) := by decide +kernel
theorem dX5_told_117 : decode cX5_told 117 = .ok (.aload_n 0, 1) := by decide +kernel
theorem dX5_told_118 : decode cX5_told 118 = .ok (.invokevirtual 161, 3) := by decide +kernel
theorem dX5_told_121 : decode cX5_told 121 = .ok (.ireturn, 1) := by decide +kernel
theorem dX5_told_122 : decode cX5_told 122 = .ok (.iload_n 2, 1) := by decide +kernel
theorem dX5_told_123 : decode cX5_told 123 = .ok (.ireturn, 1) := by decide +kernel
theorem dX5_told_124 : decode cX5_told 124 = .ok (.aload_n 0, 1) := by decide +kernel
theorem dX5_told_125 : decode cX5_told 125 = .ok (.getfield 135, 3) := by decide +kernel
theorem dX5_told_128 : decode cX5_told 128 = .ok (.ireturn, 1) := by decide +kernel
theorem dX5_told_129 : decode cX5_told 129 = .ok (.aload_n 0, 1) := by decide +kernel
theorem dX5_told_130 : decode cX5_told 130 = .ok (.getfield 145, 3) := by decide +kernel
theorem dX5_told_133 : decode cX5_told 133 = .ok (.ireturn, 1) := by decide +kernel
theorem dX5_told_134 : decode cX5_told 134 = .ok (.aload_n 0, 1) := by decide +kernel
theorem dX5_told_135 : decode cX5_told 135 = .ok (.getfield 132, 3) := by decide +kernel
theorem dX5_told_138 : decode cX5_told 138 = .ok (.ireturn, 1) := by decide +kernel
theorem dX5_told_139 : decode cX5_told 139 = .ok (.aload_n 0, 1) := by decide +kernel
theorem dX5_told_140 : decode cX5_told 140 = .ok (.getfield 116, 3) := by decide +kernel
theorem dX5_told_143 : decode cX5_told 143 = .ok (.ireturn, 1) := by decide +kernel
theorem dX5_told_144 : decode cX5_told 144 = .ok (.aload_n 0, 1) := by decide +kernel
theorem dX5_told_145 : decode cX5_told 145 = .ok (.getfield 119, 3) := by decide +kernel
theorem dX5_told_148 : decode cX5_told 148 = .ok (.ireturn, 1) := by decide +kernel
theorem dX5_told_149 : decode cX5_told 149 = .ok (.aload_n 0, 1) := by decide +kernel
theorem dX5_told_150 : decode cX5_told 150 = .ok (.getfield 89, 3) := by decide +kernel
theorem dX5_told_153 : decode cX5_told 153 = .ok (.ireturn, 1) := by decide +kernel
theorem dX5_told_154 : decode cX5_told 154 = .ok (.aload_n 0, 1) := by decide +kernel
theorem dX5_told_155 : decode cX5_told 155 = .ok (.getfield 176, 3) := by decide +kernel
theorem dX5_told_158 : decode cX5_told 158 = .ok (.ireturn, 1) := by decide +kernel
theorem dJ7_fill_53178_0 : decode cJ7_fill_53178 0 = .ok (.iconst 0, 1) := by decide +kernel
theorem dJ7_fill_53178_1 : decode cJ7_fill_53178 1 = .ok (.istore_n 2, 1) := by decide +kernel
theorem dJ7_fill_53178_2 : decode cJ7_fill_53178 2 = .ok (.aload_n 0, 1) := by decide +kernel
theorem dJ7_fill_53178_3 : decode cJ7_fill_53178 3 = .ok (.arraylength, 1) := by decide +kernel
theorem dJ7_fill_53178_4 : decode cJ7_fill_53178 4 = .ok (.istore_n 3, 1) := by decide +kernel
theorem dJ7_fill_53178_5 : decode cJ7_fill_53178 5 = .ok (.iload_n 2, 1) := by decide +kernel
theorem dJ7_fill_53178_6 : decode cJ7_fill_53178 6 = .ok (.iload_n 3, 1) := by decide +kernel
theorem dJ7_fill_53178_7 : decode cJ7_fill_53178 7 = .ok (.if_icmp .ge 13, 3) := by decide +kernel
theorem dJ7_fill_53178_10 : decode cJ7_fill_53178 10 = .ok (.aload_n 0, 1) := by decide +kernel
theorem dJ7_fill_53178_11 : decode cJ7_fill_53178 11 = .ok (.iload_n 2, 1) := by decide +kernel
theorem dJ7_fill_53178_12 : decode cJ7_fill_53178 12 = .ok (.iload_n 1, 1) := by decide +kernel
theorem dJ7_fill_53178_13 : decode cJ7_fill_53178 13 = .ok (.iastore, 1) := by decide +kernel
theorem dJ7_fill_53178_14 : decode cJ7_fill_53178 14 = .ok (.iinc 2 1, 3) := by decide +kernel
theorem dJ7_fill_53178_17 : decode cJ7_fill_53178 17 = .ok (.goto (-12), 3) := by decide +kernel
theorem dJ7_fill_53178_20 : decode cJ7_fill_53178 20 = .ok (.return_, 1) := by decide +kernel
