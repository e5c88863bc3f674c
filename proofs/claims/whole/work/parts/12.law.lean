theorem d_X2_worth_0 : decode cX2_worth 0 = .ok (.iconst 0, 1) := by decide +kernel
theorem d_X2_worth_1 : decode cX2_worth 1 = .ok (.istore_n 2, 1) := by decide +kernel
theorem d_X2_worth_2 : decode cX2_worth 2 = .ok (.iconst 0, 1) := by decide +kernel
theorem d_X2_worth_3 : decode cX2_worth 3 = .ok (.istore_n 3, 1) := by decide +kernel
theorem d_X2_worth_4 : decode cX2_worth 4 = .ok (.iload_n 3, 1) := by decide +kernel
theorem d_X2_worth_5 : decode cX2_worth 5 = .ok (.aload_n 0, 1) := by decide +kernel
theorem d_X2_worth_6 : decode cX2_worth 6 = .ok (.getfield 18, 3) := by decide +kernel
theorem d_X2_worth_9 : decode cX2_worth 9 = .ok (.if_icmp .ge 433, 3) := by decide +kernel
theorem d_X2_worth_12 : decode cX2_worth 12 = .ok (.aload_n 0, 1) := by decide +kernel
theorem d_X2_worth_13 : decode cX2_worth 13 = .ok (.getfield 9, 3) := by decide +kernel
theorem d_X2_worth_16 : decode cX2_worth 16 = .ok (.iload_n 3, 1) := by decide +kernel
theorem d_X2_worth_17 : decode cX2_worth 17 = .ok (.iaload, 1) := by decide +kernel
theorem d_X2_worth_18 : decode cX2_worth 18 = .ok (.bipush 15, 2) := by decide +kernel
theorem d_X2_worth_20 : decode cX2_worth 20 = .ok (.iand, 1) := by decide +kernel
theorem d_X2_worth_21 : decode cX2_worth 21 = .ok (.istore 4, 2) := by decide +kernel
theorem d_X2_worth_23 : decode cX2_worth 23 = .ok (.aload_n 0, 1) := by decide +kernel
theorem d_X2_worth_24 : decode cX2_worth 24 = .ok (.getfield 9, 3) := by decide +kernel
theorem d_X2_worth_27 : decode cX2_worth 27 = .ok (.iload_n 3, 1) := by decide +kernel
theorem d_X2_worth_28 : decode cX2_worth 28 = .ok (.iaload, 1) := by decide +kernel
theorem d_X2_worth_29 : decode cX2_worth 29 = .ok (.iconst 4, 1) := by decide +kernel
theorem d_X2_worth_30 : decode cX2_worth 30 = .ok (.ishr, 1) := by decide +kernel
theorem d_X2_worth_31 : decode cX2_worth 31 = .ok (.istore 5, 2) := by decide +kernel
theorem d_X2_worth_33 : decode cX2_worth 33 = .ok (.iload_n 2, 1) := by decide +kernel
theorem d_X2_worth_34 : decode cX2_worth 34 = .ok (.aload_n 0, 1) := by decide +kernel
theorem d_X2_worth_35 : decode cX2_worth 35 = .ok (.getfield 15, 3) := by decide +kernel
theorem d_X2_worth_38 : decode cX2_worth 38 = .ok (.arraylength, 1) := by decide +kernel
theorem d_X2_worth_39 : decode cX2_worth 39 = .ok (.if_icmp .ge 28, 3) := by decide +kernel
theorem d_X2_worth_42 : decode cX2_worth 42 = .ok (.iload_n 2, 1) := by decide +kernel
theorem d_X2_worth_43 : decode cX2_worth 43 = .ok (.iload 4, 2) := by decide +kernel
theorem d_X2_worth_45 : decode cX2_worth 45 = .ok (.iconst 5, 1) := by decide +kernel
theorem d_X2_worth_46 : decode cX2_worth 46 = .ok (.if_icmp .lt 7, 3) := by decide +kernel
theorem d_X2_worth_49 : decode cX2_worth 49 = .ok (.iconst 2, 1) := by decide +kernel
theorem d_X2_worth_50 : decode cX2_worth 50 = .ok (.goto 14, 3) := by decide +kernel
theorem d_X2_worth_53 : decode cX2_worth 53 = .ok (.iload 4, 2) := by decide +kernel
theorem d_X2_worth_55 : decode cX2_worth 55 = .ok (.iconst 2, 1) := by decide +kernel
theorem d_X2_worth_56 : decode cX2_worth 56 = .ok (.if_icmp .lt 7, 3) := by decide +kernel
theorem d_X2_worth_59 : decode cX2_worth 59 = .ok (.iconst 1, 1) := by decide +kernel
theorem d_X2_worth_60 : decode cX2_worth 60 = .ok (.goto 4, 3) := by decide +kernel
theorem d_X2_worth_63 : decode cX2_worth 63 = .ok (.iconst 0, 1) := by decide +kernel
theorem d_X2_worth_64 : decode cX2_worth 64 = .ok (.if_icmp .ge 5, 3) := by decide +kernel
theorem d_X2_worth_67 : decode cX2_worth 67 = .ok (.iconst 0, 1) := by decide +kernel
theorem d_X2_worth_68 : decode cX2_worth 68 = .ok (.ireturn, 1) := by decide +kernel
theorem d_X2_worth_69 : decode cX2_worth 69 = .ok (.iload_n 2, 1) := by decide +kernel
theorem d_X2_worth_70 : decode cX2_worth 70 = .ok (.iconst 1, 1) := by decide +kernel
theorem d_X2_worth_71 : decode cX2_worth 71 = .ok (.if_icmp .le 15, 3) := by decide +kernel
theorem d_X2_worth_74 : decode cX2_worth 74 = .ok (.aload_n 0, 1) := by decide +kernel
theorem d_X2_worth_75 : decode cX2_worth 75 = .ok (.getfield 15, 3) := by decide +kernel
theorem d_X2_worth_78 : decode cX2_worth 78 = .ok (.iload_n 2, 1) := by decide +kernel
theorem d_X2_worth_79 : decode cX2_worth 79 = .ok (.iconst 2, 1) := by decide +kernel
theorem d_X2_worth_80 : decode cX2_worth 80 = .ok (.isub, 1) := by decide +kernel
theorem d_X2_worth_81 : decode cX2_worth 81 = .ok (.iaload, 1) := by decide +kernel
theorem d_X2_worth_82 : decode cX2_worth 82 = .ok (.i2l, 1) := by decide +kernel
theorem d_X2_worth_83 : decode cX2_worth 83 = .ok (.goto 4, 3) := by decide +kernel
theorem d_X2_worth_86 : decode cX2_worth 86 = .ok (.lconst 0, 1) := by decide +kernel
theorem d_X2_worth_87 : decode cX2_worth 87 = .ok (.lstore 6, 2) := by decide +kernel
theorem d_X2_worth_89 : decode cX2_worth 89 = .ok (.iload_n 2, 1) := by decide +kernel
theorem d_X2_worth_90 : decode cX2_worth 90 = .ok (.ifCond .le 15, 3) := by decide +kernel
theorem d_X2_worth_93 : decode cX2_worth 93 = .ok (.aload_n 0, 1) := by decide +kernel
theorem d_X2_worth_94 : decode cX2_worth 94 = .ok (.getfield 15, 3) := by decide +kernel
theorem d_X2_worth_97 : decode cX2_worth 97 = .ok (.iload_n 2, 1) := by decide +kernel
theorem d_X2_worth_98 : decode cX2_worth 98 = .ok (.iconst 1, 1) := by decide +kernel
theorem d_X2_worth_99 : decode cX2_worth 99 = .ok (.isub, 1) := by decide +kernel
theorem d_X2_worth_100 : decode cX2_worth 100 = .ok (.iaload, 1) := by decide +kernel
theorem d_X2_worth_101 : decode cX2_worth 101 = .ok (.i2l, 1) := by decide +kernel
theorem d_X2_worth_102 : decode cX2_worth 102 = .ok (.goto 4, 3) := by decide +kernel
theorem d_X2_worth_105 : decode cX2_worth 105 = .ok (.lconst 0, 1) := by decide +kernel
theorem d_X2_worth_106 : decode cX2_worth 106 = .ok (.lstore 8, 2) := by decide +kernel
theorem d_X2_worth_108 : decode cX2_worth 108 = .ok (.lconst 0, 1) := by decide +kernel
theorem d_X2_worth_109 : decode cX2_worth 109 = .ok (.lstore 10, 2) := by decide +kernel
theorem d_X2_worth_111 : decode cX2_worth 111 = .ok (.iload 4, 2) := by decide +kernel
theorem d_X2_worth_113 : decode cX2_worth 113 = .ok (.tableswitch 214 0 13 #[71, 79, 105, 114, 139, 143, 153, 163, 173, 214, 214, 214, 194, 204], 71) := by decide +kernel
theorem d_X2_worth_184 : decode cX2_worth 184 = .ok (.iload 5, 2) := by decide +kernel
theorem d_X2_worth_186 : decode cX2_worth 186 = .ok (.i2l, 1) := by decide +kernel
theorem d_X2_worth_187 : decode cX2_worth 187 = .ok (.lstore 10, 2) := by decide +kernel
theorem d_X2_worth_189 : decode cX2_worth 189 = .ok (.goto 178, 3) := by decide +kernel
theorem d_X2_worth_192 : decode cX2_worth 192 = .ok (.iload 5, 2) := by decide +kernel
theorem d_X2_worth_194 : decode cX2_worth 194 = .ok (.ifCond .lt 18, 3) := by decide +kernel
theorem d_X2_worth_197 : decode cX2_worth 197 = .ok (.iload 5, 2) := by decide +kernel
theorem d_X2_worth_199 : decode cX2_worth 199 = .ok (.aload_n 1, 1) := by decide +kernel
theorem d_X2_worth_200 : decode cX2_worth 200 = .ok (.arraylength, 1) := by decide +kernel
theorem d_X2_worth_201 : decode cX2_worth 201 = .ok (.if_icmp .ge 11, 3) := by decide +kernel
theorem d_X2_worth_204 : decode cX2_worth 204 = .ok (.aload_n 1, 1) := by decide +kernel
theorem d_X2_worth_205 : decode cX2_worth 205 = .ok (.iload 5, 2) := by decide +kernel
theorem d_X2_worth_207 : decode cX2_worth 207 = .ok (.iaload, 1) := by decide +kernel
theorem d_X2_worth_208 : decode cX2_worth 208 = .ok (.i2l, 1) := by decide +kernel
theorem d_X2_worth_209 : decode cX2_worth 209 = .ok (.goto 4, 3) := by decide +kernel
theorem d_X2_worth_212 : decode cX2_worth 212 = .ok (.lconst 0, 1) := by decide +kernel
theorem d_X2_worth_213 : decode cX2_worth 213 = .ok (.lstore 10, 2) := by decide +kernel
theorem d_X2_worth_215 : decode cX2_worth 215 = .ok (.goto 152, 3) := by decide +kernel
theorem d_X2_worth_218 : decode cX2_worth 218 = .ok (.lconst 1, 1) := by decide +kernel
theorem d_X2_worth_219 : decode cX2_worth 219 = .ok (.lload 8, 2) := by decide +kernel
theorem d_X2_worth_221 : decode cX2_worth 221 = .ok (.lsub, 1) := by decide +kernel
theorem d_X2_worth_222 : decode cX2_worth 222 = .ok (.lstore 10, 2) := by decide +kernel
theorem d_X2_worth_224 : decode cX2_worth 224 = .ok (.goto 143, 3) := by decide +kernel
theorem d_X2_worth_227 : decode cX2_worth 227 = .ok (.lload 8, 2) := by decide +kernel
theorem d_X2_worth_229 : decode cX2_worth 229 = .ok (.lconst 0, 1) := by decide +kernel
theorem d_X2_worth_230 : decode cX2_worth 230 = .ok (.lcmp, 1) := by decide +kernel
theorem d_X2_worth_231 : decode cX2_worth 231 = .ok (.ifCond .ne 16, 3) := by decide +kernel
theorem d_X2_worth_234 : decode cX2_worth 234 = .ok (.iload 5, 2) := by decide +kernel
theorem d_X2_worth_236 : decode cX2_worth 236 = .ok (.iload_n 3, 1) := by decide +kernel
theorem d_X2_worth_237 : decode cX2_worth 237 = .ok (.if_icmp .le 10, 3) := by decide +kernel
theorem d_X2_worth_240 : decode cX2_worth 240 = .ok (.iload 5, 2) := by decide +kernel
theorem d_X2_worth_242 : decode cX2_worth 242 = .ok (.iconst 1, 1) := by decide +kernel
theorem d_X2_worth_243 : decode cX2_worth 243 = .ok (.isub, 1) := by decide +kernel
theorem d_X2_worth_244 : decode cX2_worth 244 = .ok (.goto 4, 3) := by decide +kernel
theorem d_X2_worth_247 : decode cX2_worth 247 = .ok (.iload_n 3, 1) := by decide +kernel
theorem d_X2_worth_248 : decode cX2_worth 248 = .ok (.istore_n 3, 1) := by decide +kernel
theorem d_X2_worth_249 : decode cX2_worth 249 = .ok (.goto 118, 3) := by decide +kernel
theorem d_X2_worth_252 : decode cX2_worth 252 = .ok (.lload 8, 2) := by decide +kernel
theorem d_X2_worth_254 : decode cX2_worth 254 = .ok (.l2i, 1) := by decide +kernel
theorem d_X2_worth_255 : decode cX2_worth 255 = .ok (.ireturn, 1) := by decide +kernel
theorem d_X2_worth_256 : decode cX2_worth 256 = .ok (.lload 6, 2) := by decide +kernel
theorem d_X2_worth_258 : decode cX2_worth 258 = .ok (.lload 8, 2) := by decide +kernel
theorem d_X2_worth_260 : decode cX2_worth 260 = .ok (.ladd, 1) := by decide +kernel
theorem d_X2_worth_261 : decode cX2_worth 261 = .ok (.lstore 10, 2) := by decide +kernel
theorem d_X2_worth_263 : decode cX2_worth 263 = .ok (.goto 104, 3) := by decide +kernel
theorem d_X2_worth_266 : decode cX2_worth 266 = .ok (.lload 6, 2) := by decide +kernel
theorem d_X2_worth_268 : decode cX2_worth 268 = .ok (.lload 8, 2) := by decide +kernel
theorem d_X2_worth_270 : decode cX2_worth 270 = .ok (.lsub, 1) := by decide +kernel
theorem d_X2_worth_271 : decode cX2_worth 271 = .ok (.lstore 10, 2) := by decide +kernel
theorem d_X2_worth_273 : decode cX2_worth 273 = .ok (.goto 94, 3) := by decide +kernel
theorem d_X2_worth_276 : decode cX2_worth 276 = .ok (.lload 6, 2) := by decide +kernel
theorem d_X2_worth_278 : decode cX2_worth 278 = .ok (.lload 8, 2) := by decide +kernel
theorem d_X2_worth_280 : decode cX2_worth 280 = .ok (.lmul, 1) := by decide +kernel
theorem d_X2_worth_281 : decode cX2_worth 281 = .ok (.lstore 10, 2) := by decide +kernel
theorem d_X2_worth_283 : decode cX2_worth 283 = .ok (.goto 84, 3) := by decide +kernel
theorem d_X2_worth_286 : decode cX2_worth 286 = .ok (.lload 8, 2) := by decide +kernel
theorem d_X2_worth_288 : decode cX2_worth 288 = .ok (.lconst 0, 1) := by decide +kernel
theorem d_X2_worth_289 : decode cX2_worth 289 = .ok (.lcmp, 1) := by decide +kernel
theorem d_X2_worth_290 : decode cX2_worth 290 = .ok (.ifCond .ne 7, 3) := by decide +kernel
theorem d_X2_worth_293 : decode cX2_worth 293 = .ok (.lconst 0, 1) := by decide +kernel
theorem d_X2_worth_294 : decode cX2_worth 294 = .ok (.goto 8, 3) := by decide +kernel
theorem d_X2_worth_297 : decode cX2_worth 297 = .ok (.lload 6, 2) := by decide +kernel
theorem d_X2_worth_299 : decode cX2_worth 299 = .ok (.lload 8, 2) := by decide +kernel
theorem d_X2_worth_301 : decode cX2_worth 301 = .ok (.ldiv, 1) := by decide +kernel
theorem d_X2_worth_302 : decode cX2_worth 302 = .ok (.lstore 10, 2) := by decide +kernel
theorem d_X2_worth_304 : decode cX2_worth 304 = .ok (.goto 63, 3) := by decide +kernel
theorem d_X2_worth_307 : decode cX2_worth 307 = .ok (.lload 6, 2) := by decide +kernel
theorem d_X2_worth_309 : decode cX2_worth 309 = .ok (.lload 8, 2) := by decide +kernel
theorem d_X2_worth_311 : decode cX2_worth 311 = .ok (.land, 1) := by decide +kernel
theorem d_X2_worth_312 : decode cX2_worth 312 = .ok (.lstore 10, 2) := by decide +kernel
theorem d_X2_worth_314 : decode cX2_worth 314 = .ok (.goto 53, 3) := by decide +kernel
theorem d_X2_worth_317 : decode cX2_worth 317 = .ok (.lload 6, 2) := by decide +kernel
theorem d_X2_worth_319 : decode cX2_worth 319 = .ok (.lload 8, 2) := by decide +kernel
theorem d_X2_worth_321 : decode cX2_worth 321 = .ok (.lor, 1) := by decide +kernel
theorem d_X2_worth_322 : decode cX2_worth 322 = .ok (.lstore 10, 2) := by decide +kernel
theorem d_X2_worth_324 : decode cX2_worth 324 = .ok (.goto 43, 3) := by decide +kernel
theorem d_X2_worth_327 : decode cX2_worth 327 = .ok (.iload 4, 2) := by decide +kernel
theorem d_X2_worth_329 : decode cX2_worth 329 = .ok (.lload 6, 2) := by decide +kernel
theorem d_X2_worth_331 : decode cX2_worth 331 = .ok (.lload 8, 2) := by decide +kernel
theorem d_X2_worth_333 : decode cX2_worth 333 = .ok (.lcmp, 1) := by decide +kernel
theorem d_X2_worth_334 : decode cX2_worth 334 = .ok (.ifCond .ge 8, 3) := by decide +kernel
theorem d_X2_worth_337 : decode cX2_worth 337 = .ok (.bipush 10, 2) := by decide +kernel
theorem d_X2_worth_339 : decode cX2_worth 339 = .ok (.goto 18, 3) := by decide +kernel
theorem d_X2_worth_342 : decode cX2_worth 342 = .ok (.lload 6, 2) := by decide +kernel
theorem d_X2_worth_344 : decode cX2_worth 344 = .ok (.lload 8, 2) := by decide +kernel
theorem d_X2_worth_346 : decode cX2_worth 346 = .ok (.lcmp, 1) := by decide +kernel
theorem d_X2_worth_347 : decode cX2_worth 347 = .ok (.ifCond .le 8, 3) := by decide +kernel
theorem d_X2_worth_350 : decode cX2_worth 350 = .ok (.bipush 11, 2) := by decide +kernel
theorem d_X2_worth_352 : decode cX2_worth 352 = .ok (.goto 5, 3) := by decide +kernel
theorem d_X2_worth_355 : decode cX2_worth 355 = .ok (.bipush 9, 2) := by decide +kernel
theorem d_X2_worth_357 : decode cX2_worth 357 = .ok (.if_icmp .ne 7, 3) := by decide +kernel
theorem d_X2_worth_360 : decode cX2_worth 360 = .ok (.lconst 1, 1) := by decide +kernel
theorem d_X2_worth_361 : decode cX2_worth 361 = .ok (.goto 4, 3) := by decide +kernel
theorem d_X2_worth_364 : decode cX2_worth 364 = .ok (.lconst 0, 1) := by decide +kernel
theorem d_X2_worth_365 : decode cX2_worth 365 = .ok (.lstore 10, 2) := by decide +kernel
theorem d_X2_worth_367 : decode cX2_worth 367 = .ok (.iload_n 2, 1) := by decide +kernel
theorem d_X2_worth_368 : decode cX2_worth 368 = .ok (.iload 4, 2) := by decide +kernel
theorem d_X2_worth_370 : decode cX2_worth 370 = .ok (.iconst 1, 1) := by decide +kernel
theorem d_X2_worth_371 : decode cX2_worth 371 = .ok (.if_icmp .gt 7, 3) := by decide +kernel
theorem d_X2_worth_374 : decode cX2_worth 374 = .ok (.iconst 1, 1) := by decide +kernel
theorem d_X2_worth_375 : decode cX2_worth 375 = .ok (.goto 14, 3) := by decide +kernel
theorem d_X2_worth_378 : decode cX2_worth 378 = .ok (.iload 4, 2) := by decide +kernel
theorem d_X2_worth_380 : decode cX2_worth 380 = .ok (.iconst 2, 1) := by decide +kernel
theorem d_X2_worth_381 : decode cX2_worth 381 = .ok (.if_icmp .ne 7, 3) := by decide +kernel
theorem d_X2_worth_384 : decode cX2_worth 384 = .ok (.iconst 0, 1) := by decide +kernel
theorem d_X2_worth_385 : decode cX2_worth 385 = .ok (.goto 4, 3) := by decide +kernel
theorem d_X2_worth_388 : decode cX2_worth 388 = .ok (.iconst (-1), 1) := by decide +kernel
theorem d_X2_worth_389 : decode cX2_worth 389 = .ok (.iadd, 1) := by decide +kernel
theorem d_X2_worth_390 : decode cX2_worth 390 = .ok (.istore_n 2, 1) := by decide +kernel
theorem d_X2_worth_391 : decode cX2_worth 391 = .ok (.iload_n 2, 1) := by decide +kernel
theorem d_X2_worth_392 : decode cX2_worth 392 = .ok (.ifCond .le 44, 3) := by decide +kernel
theorem d_X2_worth_395 : decode cX2_worth 395 = .ok (.aload_n 0, 1) := by decide +kernel
theorem d_X2_worth_396 : decode cX2_worth 396 = .ok (.getfield 15, 3) := by decide +kernel
theorem d_X2_worth_399 : decode cX2_worth 399 = .ok (.iload_n 2, 1) := by decide +kernel
theorem d_X2_worth_400 : decode cX2_worth 400 = .ok (.iconst 1, 1) := by decide +kernel
theorem d_X2_worth_401 : decode cX2_worth 401 = .ok (.isub, 1) := by decide +kernel
theorem d_X2_worth_402 : decode cX2_worth 402 = .ok (.lload 10, 2) := by decide +kernel
theorem d_X2_worth_404 : decode cX2_worth 404 = .ok (.ldc2_w 89, 3) := by decide +kernel
theorem d_X2_worth_407 : decode cX2_worth 407 = .ok (.lcmp, 1) := by decide +kernel
theorem d_X2_worth_408 : decode cX2_worth 408 = .ok (.ifCond .le 9, 3) := by decide +kernel
theorem d_X2_worth_411 : decode cX2_worth 411 = .ok (.ldc2_w 89, 3) := by decide +kernel
theorem d_X2_worth_414 : decode cX2_worth 414 = .ok (.goto 20, 3) := by decide +kernel
theorem d_X2_worth_417 : decode cX2_worth 417 = .ok (.lload 10, 2) := by decide +kernel
theorem d_X2_worth_419 : decode cX2_worth 419 = .ok (.ldc2_w 91, 3) := by decide +kernel
theorem d_X2_worth_422 : decode cX2_worth 422 = .ok (.lcmp, 1) := by decide +kernel
theorem d_X2_worth_423 : decode cX2_worth 423 = .ok (.ifCond .ge 9, 3) := by decide +kernel
theorem d_X2_worth_426 : decode cX2_worth 426 = .ok (.ldc2_w 91, 3) := by decide +kernel
theorem d_X2_worth_429 : decode cX2_worth 429 = .ok (.goto 5, 3) := by decide +kernel
theorem d_X2_worth_432 : decode cX2_worth 432 = .ok (.lload 10, 2) := by decide +kernel
theorem d_X2_worth_434 : decode cX2_worth 434 = .ok (.l2i, 1) := by decide +kernel
theorem d_X2_worth_435 : decode cX2_worth 435 = .ok (.iastore, 1) := by decide +kernel
theorem d_X2_worth_436 : decode cX2_worth 436 = .ok (.iinc 3 1, 3) := by decide +kernel
theorem d_X2_worth_439 : decode cX2_worth 439 = .ok (.goto (-435), 3) := by decide +kernel
theorem d_X2_worth_442 : decode cX2_worth 442 = .ok (.iconst 0, 1) := by decide +kernel
theorem d_X2_worth_443 : decode cX2_worth 443 = .ok (.ireturn, 1) := by decide +kernel
def f_X2_worth (this : Nat) (a1 : Nat) : sa_M Int32 :=
sa_gd 2 this (
sa_let (0 : Int32) fun x1 =>
sa_let (0 : Int32) fun x2 =>
sa_wh2 (fun j4 (x3 : Int32) (x4 : Int32) =>
sa_bnd (sa_rdI 2 this 2) fun v5 =>
if v5 ≤ x4 then
sa_ret (0 : Int32)
else
sa_bnd (sa_rdR 2 this 0) fun v6 =>
sa_bnd (sa_ldI .int v6 x4) fun v7 =>
sa_let ((v7 &&& 15) : Int32) fun x8 =>
sa_bnd (sa_rdR 2 this 0) fun v9 =>
sa_bnd (sa_ldI .int v9 x4) fun v10 =>
sa_let ((v10 >>> (4 &&& 31)) : Int32) fun x11 =>
sa_bnd (sa_rdR 2 this 1) fun v12 =>
sa_bnd (sa_len .int v12) fun v13 =>
sa_jn0 (sa_ret (0 : Int32)) fun j67 =>
if v13 ≤ x3 then
j67
else
sa_jn1 (fun (y14 : Int32) =>
if y14 ≤ x3 then
sa_jn1 (fun (y15 : Int64) =>
sa_jn1 (fun (y16 : Int64) =>
sa_let (0 : Int64) fun x17 =>
sa_jn2 (fun (x18 : Int32) (x19 : Int64) =>
sa_jn1 (fun (y20 : Int32) =>
sa_let ((x3 + y20) : Int32) fun x21 =>
sa_jn0 (sa_let ((x18 + 1) : Int32) fun x22 =>
j4 x21 x22) fun j436 =>
if x21 ≤ 0 then
j436
else
sa_bnd (sa_rdR 2 this 1) fun v23 =>
sa_jn1 (fun (y24 : Int64) =>
sa_bnd (sa_stI v23 (x21 - 1) (y24.toInt32)) fun _ =>
j436) fun j434 =>
if (lg_cmp x19 1000000) ≤ 0 then
if 0 ≤ (lg_cmp x19 (-1000000)) then
j434 x19
else
j434 (-1000000)
else
j434 1000000) fun j389 =>
if 1 < x8 then
if ¬ x8 = 2 then
j389 (-1)
else
j389 0
else
j389 1) fun j367 =>
if x8 = 0 then
sa_let ((x11.toInt64) : Int64) fun x25 =>
j367 x4 x25
else
if x8 = 1 then
sa_jn1 (fun (y26 : Int64) =>
j367 x4 y26) fun j213 =>
sa_jn0 (j213 0) fun j212 =>
if x11 < 0 then
j212
else
sa_bnd (sa_len .int a1) fun v27 =>
if v27 ≤ x11 then
j212
else
sa_bnd (sa_ldI .int a1 x11) fun v28 =>
j213 (v28.toInt64)
else
if x8 = 2 then
sa_let ((1 - y16) : Int64) fun x29 =>
j367 x4 x29
else
if x8 = 3 then
sa_jn1 (fun (y30 : Int32) =>
j367 y30 x17) fun j248 =>
sa_jn0 (j248 x4) fun j247 =>
if ¬ (lg_cmp y16 0) = 0 then
j247
else
if x11 ≤ x4 then
j247
else
j248 (x11 - 1)
else
if x8 = 4 then
sa_ret ((y16.toInt32) : Int32)
else
if x8 = 5 then
sa_let ((y15 + y16) : Int64) fun x31 =>
j367 x4 x31
else
if x8 = 6 then
sa_let ((y15 - y16) : Int64) fun x32 =>
j367 x4 x32
else
if x8 = 7 then
sa_let ((y15 * y16) : Int64) fun x33 =>
j367 x4 x33
else
if x8 = 8 then
sa_jn1 (fun (y34 : Int64) =>
j367 x4 y34) fun j302 =>
if ¬ (lg_cmp y16 0) = 0 then
sa_bnd (sa_dvL y15 y16) fun v35 =>
j302 v35
else
j302 0
else
if x8 = 9 then
sa_jn1 (fun (y36 : Int32) =>
sa_jn1 (fun (y37 : Int64) =>
j367 x4 y37) fun j365 =>
if ¬ x8 = y36 then
j365 0
else
j365 1) fun j357 =>
if 0 ≤ (lg_cmp y15 y16) then
if (lg_cmp y15 y16) ≤ 0 then
j357 9
else
j357 11
else
j357 10
else
if x8 = 10 then
sa_jn1 (fun (y38 : Int32) =>
sa_jn1 (fun (y39 : Int64) =>
j367 x4 y39) fun j365 =>
if ¬ x8 = y38 then
j365 0
else
j365 1) fun j357 =>
if 0 ≤ (lg_cmp y15 y16) then
if (lg_cmp y15 y16) ≤ 0 then
j357 9
else
j357 11
else
j357 10
else
if x8 = 11 then
sa_jn1 (fun (y40 : Int32) =>
sa_jn1 (fun (y41 : Int64) =>
j367 x4 y41) fun j365 =>
if ¬ x8 = y40 then
j365 0
else
j365 1) fun j357 =>
if 0 ≤ (lg_cmp y15 y16) then
if (lg_cmp y15 y16) ≤ 0 then
j357 9
else
j357 11
else
j357 10
else
if x8 = 12 then
sa_let ((y15 &&& y16) : Int64) fun x42 =>
j367 x4 x42
else
if x8 = 13 then
sa_let ((y15 ||| y16) : Int64) fun x43 =>
j367 x4 x43
else
sa_jn1 (fun (y44 : Int32) =>
sa_jn1 (fun (y45 : Int64) =>
j367 x4 y45) fun j365 =>
if ¬ x8 = y44 then
j365 0
else
j365 1) fun j357 =>
if 0 ≤ (lg_cmp y15 y16) then
if (lg_cmp y15 y16) ≤ 0 then
j357 9
else
j357 11
else
j357 10) fun j106 =>
if x3 ≤ 0 then
j106 0
else
sa_bnd (sa_rdR 2 this 1) fun v46 =>
sa_bnd (sa_ldI .int v46 (x3 - 1)) fun v47 =>
j106 (v47.toInt64)) fun j87 =>
if x3 ≤ 1 then
j87 0
else
sa_bnd (sa_rdR 2 this 1) fun v48 =>
sa_bnd (sa_ldI .int v48 (x3 - 2)) fun v49 =>
j87 (v49.toInt64)
else
j67) fun j64 =>
if x8 < 5 then
if x8 < 2 then
j64 0
else
j64 1
else
j64 2) sa_F x1 x2)
set_option maxHeartbeats 1000000 in
set_option maxRecDepth 10000 in
theorem b_X2_worth {p : Program} {l : Launch} {e : Env} {s : State} {m : MethodId} {args : Array Value} {below : List Frame} {meth : Method} {c : Code} {D : va_G} {ad : Nat → Nat} {cA : FieldType → ClassId} {A : Nat → Prop} (this : Nat) (a1 : Nat) (C : sa_C p s m args meth c cX2_worth RX2 "worth" 12 (some .int) D ad cA A) : sa_Sg p l e s m args below meth c 12 1 D ad cA A sa_eI 0 [(0, .ref (ad this)), (1, .ref (ad a1))] [] (f_X2_worth this a1) := by
  unfold f_X2_worth
  refine sa_gdI ?_
  refine sa_iconst (v := 0) C d_X2_worth_0 (by decide) ?_
  refine sa_topi (fun x1 => ?_)
  refine sa_istore_n (lv' := [(2, .int x1), (0, .ref (ad this)), (1, .ref (ad a1))]) C d_X2_worth_1 rfl (by decide) rfl ?_
  refine sa_iconst (v := 0) C d_X2_worth_2 (by decide) ?_
  refine sa_topi (fun x2 => ?_)
  refine sa_istore_n (lv' := [(3, .int x2), (2, .int x1), (0, .ref (ad this)), (1, .ref (ad a1))]) C d_X2_worth_3 rfl (by decide) rfl ?_
  refine sa_sub [2, 3, 1, 0] rfl (sa_loop2 (fun x3 x4 => [(0, .ref (ad this)), (1, .ref (ad a1)), (2, .int x3), (3, .int x4)]) (fun x3 x4 => []) (fun j4 hj4 x3 x4 => ?_) _ _ _)
  refine sa_iload_n C d_X2_worth_4 rfl 3 rfl ?_
  refine sa_aload_n C d_X2_worth_5 rfl 0 rfl ?_
  refine sa_getI C fd_X2_18 d_X2_worth_6 (fun v5 => ?_)
  refine sa_icmp_ge (tgt := 442) C d_X2_worth_9 (by decide) ?_ ?_
  · refine sa_iconst (v := 0) C d_X2_worth_442 (by decide) ?_
    exact sa_iret C d_X2_worth_443
  refine sa_aload_n C d_X2_worth_12 rfl 0 rfl ?_
  refine sa_getR C fd_X2_9 rfl d_X2_worth_13 (fun v6 => ?_)
  refine sa_iload_n C d_X2_worth_16 rfl 3 rfl ?_
  refine sa_iald C d_X2_worth_17 (fun v7 => ?_)
  refine sa_bipush (v := 15) C d_X2_worth_18 (by decide) ?_
  refine sa_iand C d_X2_worth_20 ?_
  refine sa_topi (fun x8 => ?_)
  refine sa_istore (lv' := [(4, .int x8), (0, .ref (ad this)), (1, .ref (ad a1)), (2, .int x3), (3, .int x4)]) C d_X2_worth_21 (by decide) rfl ?_
  refine sa_aload_n C d_X2_worth_23 rfl 1 rfl ?_
  refine sa_getR C fd_X2_9 rfl d_X2_worth_24 (fun v9 => ?_)
  refine sa_iload_n C d_X2_worth_27 rfl 4 rfl ?_
  refine sa_iald C d_X2_worth_28 (fun v10 => ?_)
  refine sa_iconst (v := 4) C d_X2_worth_29 (by decide) ?_
  refine sa_ishr C d_X2_worth_30 ?_
  refine sa_topi (fun x11 => ?_)
  refine sa_istore (lv' := [(5, .int x11), (4, .int x8), (0, .ref (ad this)), (1, .ref (ad a1)), (2, .int x3), (3, .int x4)]) C d_X2_worth_31 (by decide) rfl ?_
  refine sa_iload_n C d_X2_worth_33 rfl 4 rfl ?_
  refine sa_aload_n C d_X2_worth_34 rfl 2 rfl ?_
  refine sa_getR C fd_X2_15 rfl d_X2_worth_35 (fun v12 => ?_)
  refine sa_alenI C d_X2_worth_38 (fun v13 => ?_)
  refine sa_join0 67 ([]) ([]) (?_) (fun j67 hj67 => ?_)
  · refine sa_iconst (v := 0) C d_X2_worth_67 (by decide) ?_
    exact sa_iret C d_X2_worth_68
  refine sa_icmp_ge (tgt := 67) C d_X2_worth_39 (by decide) ?_ ?_
  · exact sa_sub [] rfl (hj67)
  refine sa_iload_n C d_X2_worth_42 rfl 4 rfl ?_
  refine sa_iload C d_X2_worth_43 1 rfl ?_
  refine sa_iconst (v := 5) C d_X2_worth_45 (by decide) ?_
  refine sa_join1 64 (fun y14 => [(0, .ref (ad this)), (1, .ref (ad a1)), (2, .int x3), (3, .int x4), (4, .int x8), (5, .int x11)]) (fun y14 => [.int y14, .int x3]) (fun y14 => ?_) (fun j64 hj64 => ?_)
  · refine sa_icmp_ge (tgt := 69) C d_X2_worth_64 (by decide) ?_ ?_
    · refine sa_iload_n C d_X2_worth_69 rfl 2 rfl ?_
      refine sa_iconst (v := 1) C d_X2_worth_70 (by decide) ?_
      refine sa_join1 87 (fun y15 => [(0, .ref (ad this)), (1, .ref (ad a1)), (2, .int x3), (3, .int x4), (4, .int x8), (5, .int x11)]) (fun y15 => [.long y15]) (fun y15 => ?_) (fun j87 hj87 => ?_)
      · refine sa_lstore (lv' := [(6, .long y15), (0, .ref (ad this)), (1, .ref (ad a1)), (2, .int x3), (3, .int x4), (4, .int x8), (5, .int x11)]) C d_X2_worth_87 (by decide) rfl ?_
        refine sa_iload_n C d_X2_worth_89 rfl 3 rfl ?_
        refine sa_join1 106 (fun y16 => [(0, .ref (ad this)), (1, .ref (ad a1)), (2, .int x3), (3, .int x4), (4, .int x8), (5, .int x11), (6, .long y15)]) (fun y16 => [.long y16]) (fun y16 => ?_) (fun j106 hj106 => ?_)
        · refine sa_lstore (lv' := [(8, .long y16), (0, .ref (ad this)), (1, .ref (ad a1)), (2, .int x3), (3, .int x4), (4, .int x8), (5, .int x11), (6, .long y15)]) C d_X2_worth_106 (by decide) rfl ?_
          refine sa_lconst (v := 0) C d_X2_worth_108 (by decide) ?_
          refine sa_topl (fun x17 => ?_)
          refine sa_lstore (lv' := [(10, .long x17), (8, .long y16), (0, .ref (ad this)), (1, .ref (ad a1)), (2, .int x3), (3, .int x4), (4, .int x8), (5, .int x11), (6, .long y15)]) C d_X2_worth_109 (by decide) rfl ?_
          refine sa_iload C d_X2_worth_111 6 rfl ?_
          refine sa_join2 367 (fun x18 x19 => [(0, .ref (ad this)), (1, .ref (ad a1)), (2, .int x3), (3, .int x18), (4, .int x8), (10, .long x19)]) (fun x18 x19 => []) (fun x18 x19 => ?_) (fun j367 hj367 => ?_)
          · refine sa_iload_n C d_X2_worth_367 rfl 2 rfl ?_
            refine sa_iload C d_X2_worth_368 4 rfl ?_
            refine sa_iconst (v := 1) C d_X2_worth_370 (by decide) ?_
            refine sa_join1 389 (fun y20 => [(0, .ref (ad this)), (1, .ref (ad a1)), (3, .int x18), (10, .long x19)]) (fun y20 => [.int y20, .int x3]) (fun y20 => ?_) (fun j389 hj389 => ?_)
            · refine sa_iadd C d_X2_worth_389 ?_
              refine sa_topi (fun x21 => ?_)
              refine sa_istore_n (lv' := [(2, .int x21), (0, .ref (ad this)), (1, .ref (ad a1)), (3, .int x18), (10, .long x19)]) C d_X2_worth_390 rfl (by decide) rfl ?_
              refine sa_iload_n C d_X2_worth_391 rfl 0 rfl ?_
              refine sa_join0 436 ([(0, .ref (ad this)), (1, .ref (ad a1)), (2, .int x21), (3, .int x18)]) ([]) (?_) (fun j436 hj436 => ?_)
              · refine sa_iinc C (fun zz => [(3, .int zz), (0, .ref (ad this)), (1, .ref (ad a1)), (2, .int x21)]) d_X2_worth_436 3 rfl rfl (by decide) (fun _ => rfl) (fun x22 => ?_)
                refine sa_goto (tgt := 4) C d_X2_worth_439 (by decide) ?_
                exact sa_sub [1, 2, 3, 0] rfl (hj4 _ _)
              refine sa_if_le (tgt := 436) C d_X2_worth_392 (by decide) ?_ ?_
              · exact sa_sub [1, 2, 0, 3] rfl (hj436)
              refine sa_aload_n C d_X2_worth_395 rfl 1 rfl ?_
              refine sa_getR C fd_X2_15 rfl d_X2_worth_396 (fun v23 => ?_)
              refine sa_iload_n C d_X2_worth_399 rfl 0 rfl ?_
              refine sa_iconst (v := 1) C d_X2_worth_400 (by decide) ?_
              refine sa_isub C d_X2_worth_401 ?_
              refine sa_lload C d_X2_worth_402 4 rfl ?_
              refine sa_ldc2 (v := 1000000) C d_X2_worth_404 q814 ?_
              refine sa_lcmp C d_X2_worth_407 ?_
              refine sa_join1 434 (fun y24 => [(0, .ref (ad this)), (1, .ref (ad a1)), (2, .int x21), (3, .int x18)]) (fun y24 => [.long y24, .int (x21 - 1), .ref (ad v23)]) (fun y24 => ?_) (fun j434 hj434 => ?_)
              · refine sa_l2i C d_X2_worth_434 ?_
                refine sa_iast C d_X2_worth_435 ?_
                exact sa_sub [0, 1, 2, 3] rfl (hj436)
              refine sa_if_le (tgt := 417) C d_X2_worth_408 (by decide) ?_ ?_
              · refine sa_lload C d_X2_worth_417 4 rfl ?_
                refine sa_ldc2 (v := (-1000000)) C d_X2_worth_419 q815 ?_
                refine sa_lcmp C d_X2_worth_422 ?_
                refine sa_if_ge (tgt := 432) C d_X2_worth_423 (by decide) ?_ ?_
                · refine sa_lload C d_X2_worth_432 4 rfl ?_
                  exact sa_sub [1, 2, 0, 3] rfl (hj434 _)
                refine sa_ldc2 (v := (-1000000)) C d_X2_worth_426 q815 ?_
                refine sa_goto (tgt := 434) C d_X2_worth_429 (by decide) ?_
                exact sa_sub [1, 2, 0, 3] rfl (hj434 _)
              refine sa_ldc2 (v := 1000000) C d_X2_worth_411 q814 ?_
              refine sa_goto (tgt := 434) C d_X2_worth_414 (by decide) ?_
              exact sa_sub [1, 2, 0, 3] rfl (hj434 _)
            refine sa_icmp_gt (tgt := 378) C d_X2_worth_371 (by decide) ?_ ?_
            · refine sa_iload C d_X2_worth_378 4 rfl ?_
              refine sa_iconst (v := 2) C d_X2_worth_380 (by decide) ?_
              refine sa_icmp_ne (tgt := 388) C d_X2_worth_381 (by decide) ?_ ?_
              · refine sa_iconst (v := (-1)) C d_X2_worth_388 (by decide) ?_
                exact sa_sub [0, 1, 3, 5] rfl (hj389 _)
              refine sa_iconst (v := 0) C d_X2_worth_384 (by decide) ?_
              refine sa_goto (tgt := 389) C d_X2_worth_385 (by decide) ?_
              exact sa_sub [0, 1, 3, 5] rfl (hj389 _)
            refine sa_iconst (v := 1) C d_X2_worth_374 (by decide) ?_
            refine sa_goto (tgt := 389) C d_X2_worth_375 (by decide) ?_
            exact sa_sub [0, 1, 3, 5] rfl (hj389 _)
          refine sa_byc (fun c0 => ?_) (fun c0 => ?_)
          · refine sa_tabIn (tgt := 184) C d_X2_worth_113 (by rw [c0]; decide) (by rw [c0]; decide) (by rw [c0]; rfl) (by decide) ?_
            refine sa_iload C d_X2_worth_184 7 rfl ?_
            refine sa_i2l C d_X2_worth_186 ?_
            refine sa_topl (fun x25 => ?_)
            refine sa_lstore (lv' := [(10, .long x25), (8, .long y16), (0, .ref (ad this)), (1, .ref (ad a1)), (2, .int x3), (3, .int x4), (4, .int x8), (5, .int x11), (6, .long y15)]) C d_X2_worth_187 (by decide) rfl ?_
            refine sa_goto (tgt := 367) C d_X2_worth_189 (by decide) ?_
            exact sa_sub [2, 3, 4, 5, 6, 0] rfl (hj367 _ _)
          refine sa_byc (fun c1 => ?_) (fun c1 => ?_)
          · refine sa_tabIn (tgt := 192) C d_X2_worth_113 (by rw [c1]; decide) (by rw [c1]; decide) (by rw [c1]; rfl) (by decide) ?_
            refine sa_iload C d_X2_worth_192 7 rfl ?_
            refine sa_join1 213 (fun y26 => [(0, .ref (ad this)), (1, .ref (ad a1)), (2, .int x3), (3, .int x4), (4, .int x8)]) (fun y26 => [.long y26]) (fun y26 => ?_) (fun j213 hj213 => ?_)
            · refine sa_lstore (lv' := [(10, .long y26), (0, .ref (ad this)), (1, .ref (ad a1)), (2, .int x3), (3, .int x4), (4, .int x8)]) C d_X2_worth_213 (by decide) rfl ?_
              refine sa_goto (tgt := 367) C d_X2_worth_215 (by decide) ?_
              exact sa_sub [1, 2, 3, 4, 5, 0] rfl (hj367 _ _)
            refine sa_join0 212 ([(0, .ref (ad this)), (1, .ref (ad a1)), (2, .int x3), (3, .int x4), (4, .int x8)]) ([]) (?_) (fun j212 hj212 => ?_)
            · refine sa_lconst (v := 0) C d_X2_worth_212 (by decide) ?_
              exact sa_sub [0, 1, 2, 3, 4] rfl (hj213 _)
            refine sa_if_lt (tgt := 212) C d_X2_worth_194 (by decide) ?_ ?_
            · exact sa_sub [2, 3, 4, 5, 6] rfl (hj212)
            refine sa_iload C d_X2_worth_197 7 rfl ?_
            refine sa_aload_n C d_X2_worth_199 rfl 3 rfl ?_
            refine sa_alenI C d_X2_worth_200 (fun v27 => ?_)
            refine sa_icmp_ge (tgt := 212) C d_X2_worth_201 (by decide) ?_ ?_
            · exact sa_sub [2, 3, 4, 5, 6] rfl (hj212)
            refine sa_aload_n C d_X2_worth_204 rfl 3 rfl ?_
            refine sa_iload C d_X2_worth_205 7 rfl ?_
            refine sa_iald C d_X2_worth_207 (fun v28 => ?_)
            refine sa_i2l C d_X2_worth_208 ?_
            refine sa_goto (tgt := 213) C d_X2_worth_209 (by decide) ?_
            exact sa_sub [2, 3, 4, 5, 6] rfl (hj213 _)
          refine sa_byc (fun c2 => ?_) (fun c2 => ?_)
          · refine sa_tabIn (tgt := 218) C d_X2_worth_113 (by rw [c2]; decide) (by rw [c2]; decide) (by rw [c2]; rfl) (by decide) ?_
            refine sa_lconst (v := 1) C d_X2_worth_218 (by decide) ?_
            refine sa_lload C d_X2_worth_219 1 rfl ?_
            refine sa_lsub C d_X2_worth_221 ?_
            refine sa_topl (fun x29 => ?_)
            refine sa_lstore (lv' := [(10, .long x29), (8, .long y16), (0, .ref (ad this)), (1, .ref (ad a1)), (2, .int x3), (3, .int x4), (4, .int x8), (5, .int x11), (6, .long y15)]) C d_X2_worth_222 (by decide) rfl ?_
            refine sa_goto (tgt := 367) C d_X2_worth_224 (by decide) ?_
            exact sa_sub [2, 3, 4, 5, 6, 0] rfl (hj367 _ _)
          refine sa_byc (fun c3 => ?_) (fun c3 => ?_)
          · refine sa_tabIn (tgt := 227) C d_X2_worth_113 (by rw [c3]; decide) (by rw [c3]; decide) (by rw [c3]; rfl) (by decide) ?_
            refine sa_lload C d_X2_worth_227 1 rfl ?_
            refine sa_lconst (v := 0) C d_X2_worth_229 (by decide) ?_
            refine sa_lcmp C d_X2_worth_230 ?_
            refine sa_join1 248 (fun y30 => [(0, .ref (ad this)), (1, .ref (ad a1)), (2, .int x3), (4, .int x8), (10, .long x17)]) (fun y30 => [.int y30]) (fun y30 => ?_) (fun j248 hj248 => ?_)
            · refine sa_istore_n (lv' := [(3, .int y30), (0, .ref (ad this)), (1, .ref (ad a1)), (2, .int x3), (4, .int x8), (10, .long x17)]) C d_X2_worth_248 rfl (by decide) rfl ?_
              refine sa_goto (tgt := 367) C d_X2_worth_249 (by decide) ?_
              exact sa_sub [1, 2, 3, 0, 4, 5] rfl (hj367 _ _)
            refine sa_join0 247 ([(0, .ref (ad this)), (1, .ref (ad a1)), (2, .int x3), (3, .int x4), (4, .int x8), (10, .long x17)]) ([]) (?_) (fun j247 hj247 => ?_)
            · refine sa_iload_n C d_X2_worth_247 rfl 3 rfl ?_
              exact sa_sub [0, 1, 2, 4, 5] rfl (hj248 _)
            refine sa_if_ne (tgt := 247) C d_X2_worth_231 (by decide) ?_ ?_
            · exact sa_sub [2, 3, 4, 5, 6, 0] rfl (hj247)
            refine sa_iload C d_X2_worth_234 7 rfl ?_
            refine sa_iload_n C d_X2_worth_236 rfl 5 rfl ?_
            refine sa_icmp_le (tgt := 247) C d_X2_worth_237 (by decide) ?_ ?_
            · exact sa_sub [2, 3, 4, 5, 6, 0] rfl (hj247)
            refine sa_iload C d_X2_worth_240 7 rfl ?_
            refine sa_iconst (v := 1) C d_X2_worth_242 (by decide) ?_
            refine sa_isub C d_X2_worth_243 ?_
            refine sa_goto (tgt := 248) C d_X2_worth_244 (by decide) ?_
            exact sa_sub [2, 3, 4, 6, 0] rfl (hj248 _)
          refine sa_byc (fun c4 => ?_) (fun c4 => ?_)
          · refine sa_tabIn (tgt := 252) C d_X2_worth_113 (by rw [c4]; decide) (by rw [c4]; decide) (by rw [c4]; rfl) (by decide) ?_
            refine sa_lload C d_X2_worth_252 1 rfl ?_
            refine sa_l2i C d_X2_worth_254 ?_
            exact sa_iret C d_X2_worth_255
          refine sa_byc (fun c5 => ?_) (fun c5 => ?_)
          · refine sa_tabIn (tgt := 256) C d_X2_worth_113 (by rw [c5]; decide) (by rw [c5]; decide) (by rw [c5]; rfl) (by decide) ?_
            refine sa_lload C d_X2_worth_256 8 rfl ?_
            refine sa_lload C d_X2_worth_258 1 rfl ?_
            refine sa_ladd C d_X2_worth_260 ?_
            refine sa_topl (fun x31 => ?_)
            refine sa_lstore (lv' := [(10, .long x31), (8, .long y16), (0, .ref (ad this)), (1, .ref (ad a1)), (2, .int x3), (3, .int x4), (4, .int x8), (5, .int x11), (6, .long y15)]) C d_X2_worth_261 (by decide) rfl ?_
            refine sa_goto (tgt := 367) C d_X2_worth_263 (by decide) ?_
            exact sa_sub [2, 3, 4, 5, 6, 0] rfl (hj367 _ _)
          refine sa_byc (fun c6 => ?_) (fun c6 => ?_)
          · refine sa_tabIn (tgt := 266) C d_X2_worth_113 (by rw [c6]; decide) (by rw [c6]; decide) (by rw [c6]; rfl) (by decide) ?_
            refine sa_lload C d_X2_worth_266 8 rfl ?_
            refine sa_lload C d_X2_worth_268 1 rfl ?_
            refine sa_lsub C d_X2_worth_270 ?_
            refine sa_topl (fun x32 => ?_)
            refine sa_lstore (lv' := [(10, .long x32), (8, .long y16), (0, .ref (ad this)), (1, .ref (ad a1)), (2, .int x3), (3, .int x4), (4, .int x8), (5, .int x11), (6, .long y15)]) C d_X2_worth_271 (by decide) rfl ?_
            refine sa_goto (tgt := 367) C d_X2_worth_273 (by decide) ?_
            exact sa_sub [2, 3, 4, 5, 6, 0] rfl (hj367 _ _)
          refine sa_byc (fun c7 => ?_) (fun c7 => ?_)
          · refine sa_tabIn (tgt := 276) C d_X2_worth_113 (by rw [c7]; decide) (by rw [c7]; decide) (by rw [c7]; rfl) (by decide) ?_
            refine sa_lload C d_X2_worth_276 8 rfl ?_
            refine sa_lload C d_X2_worth_278 1 rfl ?_
            refine sa_lmul C d_X2_worth_280 ?_
            refine sa_topl (fun x33 => ?_)
            refine sa_lstore (lv' := [(10, .long x33), (8, .long y16), (0, .ref (ad this)), (1, .ref (ad a1)), (2, .int x3), (3, .int x4), (4, .int x8), (5, .int x11), (6, .long y15)]) C d_X2_worth_281 (by decide) rfl ?_
            refine sa_goto (tgt := 367) C d_X2_worth_283 (by decide) ?_
            exact sa_sub [2, 3, 4, 5, 6, 0] rfl (hj367 _ _)
          refine sa_byc (fun c8 => ?_) (fun c8 => ?_)
          · refine sa_tabIn (tgt := 286) C d_X2_worth_113 (by rw [c8]; decide) (by rw [c8]; decide) (by rw [c8]; rfl) (by decide) ?_
            refine sa_lload C d_X2_worth_286 1 rfl ?_
            refine sa_lconst (v := 0) C d_X2_worth_288 (by decide) ?_
            refine sa_lcmp C d_X2_worth_289 ?_
            refine sa_join1 302 (fun y34 => [(0, .ref (ad this)), (1, .ref (ad a1)), (2, .int x3), (3, .int x4), (4, .int x8)]) (fun y34 => [.long y34]) (fun y34 => ?_) (fun j302 hj302 => ?_)
            · refine sa_lstore (lv' := [(10, .long y34), (0, .ref (ad this)), (1, .ref (ad a1)), (2, .int x3), (3, .int x4), (4, .int x8)]) C d_X2_worth_302 (by decide) rfl ?_
              refine sa_goto (tgt := 367) C d_X2_worth_304 (by decide) ?_
              exact sa_sub [1, 2, 3, 4, 5, 0] rfl (hj367 _ _)
            refine sa_if_ne (tgt := 297) C d_X2_worth_290 (by decide) ?_ ?_
            · refine sa_lload C d_X2_worth_297 8 rfl ?_
              refine sa_lload C d_X2_worth_299 1 rfl ?_
              refine sa_ldiv C d_X2_worth_301 (fun v35 => ?_)
              exact sa_sub [2, 3, 4, 5, 6] rfl (hj302 _)
            refine sa_lconst (v := 0) C d_X2_worth_293 (by decide) ?_
            refine sa_goto (tgt := 302) C d_X2_worth_294 (by decide) ?_
            exact sa_sub [2, 3, 4, 5, 6] rfl (hj302 _)
          refine sa_byc (fun c9 => ?_) (fun c9 => ?_)
          · refine sa_tabIn (tgt := 327) C d_X2_worth_113 (by rw [c9]; decide) (by rw [c9]; decide) (by rw [c9]; rfl) (by decide) ?_
            refine sa_iload C d_X2_worth_327 6 rfl ?_
            refine sa_lload C d_X2_worth_329 8 rfl ?_
            refine sa_lload C d_X2_worth_331 1 rfl ?_
            refine sa_lcmp C d_X2_worth_333 ?_
            refine sa_join1 357 (fun y36 => [(0, .ref (ad this)), (1, .ref (ad a1)), (2, .int x3), (3, .int x4), (4, .int x8)]) (fun y36 => [.int y36, .int x8]) (fun y36 => ?_) (fun j357 hj357 => ?_)
            · refine sa_join1 365 (fun y37 => [(0, .ref (ad this)), (1, .ref (ad a1)), (2, .int x3), (3, .int x4), (4, .int x8)]) (fun y37 => [.long y37]) (fun y37 => ?_) (fun j365 hj365 => ?_)
              · refine sa_lstore (lv' := [(10, .long y37), (0, .ref (ad this)), (1, .ref (ad a1)), (2, .int x3), (3, .int x4), (4, .int x8)]) C d_X2_worth_365 (by decide) rfl ?_
                exact sa_sub [1, 2, 3, 4, 5, 0] rfl (hj367 _ _)
              refine sa_icmp_ne (tgt := 364) C d_X2_worth_357 (by decide) ?_ ?_
              · refine sa_lconst (v := 0) C d_X2_worth_364 (by decide) ?_
                exact sa_sub [0, 1, 2, 3, 4] rfl (hj365 _)
              refine sa_lconst (v := 1) C d_X2_worth_360 (by decide) ?_
              refine sa_goto (tgt := 365) C d_X2_worth_361 (by decide) ?_
              exact sa_sub [0, 1, 2, 3, 4] rfl (hj365 _)
            refine sa_if_ge (tgt := 342) C d_X2_worth_334 (by decide) ?_ ?_
            · refine sa_lload C d_X2_worth_342 8 rfl ?_
              refine sa_lload C d_X2_worth_344 1 rfl ?_
              refine sa_lcmp C d_X2_worth_346 ?_
              refine sa_if_le (tgt := 355) C d_X2_worth_347 (by decide) ?_ ?_
              · refine sa_bipush (v := 9) C d_X2_worth_355 (by decide) ?_
                exact sa_sub [2, 3, 4, 5, 6] rfl (hj357 _)
              refine sa_bipush (v := 11) C d_X2_worth_350 (by decide) ?_
              refine sa_goto (tgt := 357) C d_X2_worth_352 (by decide) ?_
              exact sa_sub [2, 3, 4, 5, 6] rfl (hj357 _)
            refine sa_bipush (v := 10) C d_X2_worth_337 (by decide) ?_
            refine sa_goto (tgt := 357) C d_X2_worth_339 (by decide) ?_
            exact sa_sub [2, 3, 4, 5, 6] rfl (hj357 _)
          refine sa_byc (fun c10 => ?_) (fun c10 => ?_)
          · refine sa_tabIn (tgt := 327) C d_X2_worth_113 (by rw [c10]; decide) (by rw [c10]; decide) (by rw [c10]; rfl) (by decide) ?_
            refine sa_iload C d_X2_worth_327 6 rfl ?_
            refine sa_lload C d_X2_worth_329 8 rfl ?_
            refine sa_lload C d_X2_worth_331 1 rfl ?_
            refine sa_lcmp C d_X2_worth_333 ?_
            refine sa_join1 357 (fun y38 => [(0, .ref (ad this)), (1, .ref (ad a1)), (2, .int x3), (3, .int x4), (4, .int x8)]) (fun y38 => [.int y38, .int x8]) (fun y38 => ?_) (fun j357 hj357 => ?_)
            · refine sa_join1 365 (fun y39 => [(0, .ref (ad this)), (1, .ref (ad a1)), (2, .int x3), (3, .int x4), (4, .int x8)]) (fun y39 => [.long y39]) (fun y39 => ?_) (fun j365 hj365 => ?_)
              · refine sa_lstore (lv' := [(10, .long y39), (0, .ref (ad this)), (1, .ref (ad a1)), (2, .int x3), (3, .int x4), (4, .int x8)]) C d_X2_worth_365 (by decide) rfl ?_
                exact sa_sub [1, 2, 3, 4, 5, 0] rfl (hj367 _ _)
              refine sa_icmp_ne (tgt := 364) C d_X2_worth_357 (by decide) ?_ ?_
              · refine sa_lconst (v := 0) C d_X2_worth_364 (by decide) ?_
                exact sa_sub [0, 1, 2, 3, 4] rfl (hj365 _)
              refine sa_lconst (v := 1) C d_X2_worth_360 (by decide) ?_
              refine sa_goto (tgt := 365) C d_X2_worth_361 (by decide) ?_
              exact sa_sub [0, 1, 2, 3, 4] rfl (hj365 _)
            refine sa_if_ge (tgt := 342) C d_X2_worth_334 (by decide) ?_ ?_
            · refine sa_lload C d_X2_worth_342 8 rfl ?_
              refine sa_lload C d_X2_worth_344 1 rfl ?_
              refine sa_lcmp C d_X2_worth_346 ?_
              refine sa_if_le (tgt := 355) C d_X2_worth_347 (by decide) ?_ ?_
              · refine sa_bipush (v := 9) C d_X2_worth_355 (by decide) ?_
                exact sa_sub [2, 3, 4, 5, 6] rfl (hj357 _)
              refine sa_bipush (v := 11) C d_X2_worth_350 (by decide) ?_
              refine sa_goto (tgt := 357) C d_X2_worth_352 (by decide) ?_
              exact sa_sub [2, 3, 4, 5, 6] rfl (hj357 _)
            refine sa_bipush (v := 10) C d_X2_worth_337 (by decide) ?_
            refine sa_goto (tgt := 357) C d_X2_worth_339 (by decide) ?_
            exact sa_sub [2, 3, 4, 5, 6] rfl (hj357 _)
          refine sa_byc (fun c11 => ?_) (fun c11 => ?_)
          · refine sa_tabIn (tgt := 327) C d_X2_worth_113 (by rw [c11]; decide) (by rw [c11]; decide) (by rw [c11]; rfl) (by decide) ?_
            refine sa_iload C d_X2_worth_327 6 rfl ?_
            refine sa_lload C d_X2_worth_329 8 rfl ?_
            refine sa_lload C d_X2_worth_331 1 rfl ?_
            refine sa_lcmp C d_X2_worth_333 ?_
            refine sa_join1 357 (fun y40 => [(0, .ref (ad this)), (1, .ref (ad a1)), (2, .int x3), (3, .int x4), (4, .int x8)]) (fun y40 => [.int y40, .int x8]) (fun y40 => ?_) (fun j357 hj357 => ?_)
            · refine sa_join1 365 (fun y41 => [(0, .ref (ad this)), (1, .ref (ad a1)), (2, .int x3), (3, .int x4), (4, .int x8)]) (fun y41 => [.long y41]) (fun y41 => ?_) (fun j365 hj365 => ?_)
              · refine sa_lstore (lv' := [(10, .long y41), (0, .ref (ad this)), (1, .ref (ad a1)), (2, .int x3), (3, .int x4), (4, .int x8)]) C d_X2_worth_365 (by decide) rfl ?_
                exact sa_sub [1, 2, 3, 4, 5, 0] rfl (hj367 _ _)
              refine sa_icmp_ne (tgt := 364) C d_X2_worth_357 (by decide) ?_ ?_
              · refine sa_lconst (v := 0) C d_X2_worth_364 (by decide) ?_
                exact sa_sub [0, 1, 2, 3, 4] rfl (hj365 _)
              refine sa_lconst (v := 1) C d_X2_worth_360 (by decide) ?_
              refine sa_goto (tgt := 365) C d_X2_worth_361 (by decide) ?_
              exact sa_sub [0, 1, 2, 3, 4] rfl (hj365 _)
            refine sa_if_ge (tgt := 342) C d_X2_worth_334 (by decide) ?_ ?_
            · refine sa_lload C d_X2_worth_342 8 rfl ?_
              refine sa_lload C d_X2_worth_344 1 rfl ?_
              refine sa_lcmp C d_X2_worth_346 ?_
              refine sa_if_le (tgt := 355) C d_X2_worth_347 (by decide) ?_ ?_
              · refine sa_bipush (v := 9) C d_X2_worth_355 (by decide) ?_
                exact sa_sub [2, 3, 4, 5, 6] rfl (hj357 _)
              refine sa_bipush (v := 11) C d_X2_worth_350 (by decide) ?_
              refine sa_goto (tgt := 357) C d_X2_worth_352 (by decide) ?_
              exact sa_sub [2, 3, 4, 5, 6] rfl (hj357 _)
            refine sa_bipush (v := 10) C d_X2_worth_337 (by decide) ?_
            refine sa_goto (tgt := 357) C d_X2_worth_339 (by decide) ?_
            exact sa_sub [2, 3, 4, 5, 6] rfl (hj357 _)
          refine sa_byc (fun c12 => ?_) (fun c12 => ?_)
          · refine sa_tabIn (tgt := 307) C d_X2_worth_113 (by rw [c12]; decide) (by rw [c12]; decide) (by rw [c12]; rfl) (by decide) ?_
            refine sa_lload C d_X2_worth_307 8 rfl ?_
            refine sa_lload C d_X2_worth_309 1 rfl ?_
            refine sa_land C d_X2_worth_311 ?_
            refine sa_topl (fun x42 => ?_)
            refine sa_lstore (lv' := [(10, .long x42), (8, .long y16), (0, .ref (ad this)), (1, .ref (ad a1)), (2, .int x3), (3, .int x4), (4, .int x8), (5, .int x11), (6, .long y15)]) C d_X2_worth_312 (by decide) rfl ?_
            refine sa_goto (tgt := 367) C d_X2_worth_314 (by decide) ?_
            exact sa_sub [2, 3, 4, 5, 6, 0] rfl (hj367 _ _)
          refine sa_byc (fun c13 => ?_) (fun c13 => ?_)
          · refine sa_tabIn (tgt := 317) C d_X2_worth_113 (by rw [c13]; decide) (by rw [c13]; decide) (by rw [c13]; rfl) (by decide) ?_
            refine sa_lload C d_X2_worth_317 8 rfl ?_
            refine sa_lload C d_X2_worth_319 1 rfl ?_
            refine sa_lor C d_X2_worth_321 ?_
            refine sa_topl (fun x43 => ?_)
            refine sa_lstore (lv' := [(10, .long x43), (8, .long y16), (0, .ref (ad this)), (1, .ref (ad a1)), (2, .int x3), (3, .int x4), (4, .int x8), (5, .int x11), (6, .long y15)]) C d_X2_worth_322 (by decide) rfl ?_
            refine sa_goto (tgt := 367) C d_X2_worth_324 (by decide) ?_
            exact sa_sub [2, 3, 4, 5, 6, 0] rfl (hj367 _ _)
          refine sa_tabOut (tgt := 327) C d_X2_worth_113 (sa_out14 c0 c1 c2 c3 c4 c5 c6 c7 c8 c9 c10 c11 c12 c13) (by decide) ?_
          refine sa_iload C d_X2_worth_327 6 rfl ?_
          refine sa_lload C d_X2_worth_329 8 rfl ?_
          refine sa_lload C d_X2_worth_331 1 rfl ?_
          refine sa_lcmp C d_X2_worth_333 ?_
          refine sa_join1 357 (fun y44 => [(0, .ref (ad this)), (1, .ref (ad a1)), (2, .int x3), (3, .int x4), (4, .int x8)]) (fun y44 => [.int y44, .int x8]) (fun y44 => ?_) (fun j357 hj357 => ?_)
          · refine sa_join1 365 (fun y45 => [(0, .ref (ad this)), (1, .ref (ad a1)), (2, .int x3), (3, .int x4), (4, .int x8)]) (fun y45 => [.long y45]) (fun y45 => ?_) (fun j365 hj365 => ?_)
            · refine sa_lstore (lv' := [(10, .long y45), (0, .ref (ad this)), (1, .ref (ad a1)), (2, .int x3), (3, .int x4), (4, .int x8)]) C d_X2_worth_365 (by decide) rfl ?_
              exact sa_sub [1, 2, 3, 4, 5, 0] rfl (hj367 _ _)
            refine sa_icmp_ne (tgt := 364) C d_X2_worth_357 (by decide) ?_ ?_
            · refine sa_lconst (v := 0) C d_X2_worth_364 (by decide) ?_
              exact sa_sub [0, 1, 2, 3, 4] rfl (hj365 _)
            refine sa_lconst (v := 1) C d_X2_worth_360 (by decide) ?_
            refine sa_goto (tgt := 365) C d_X2_worth_361 (by decide) ?_
            exact sa_sub [0, 1, 2, 3, 4] rfl (hj365 _)
          refine sa_if_ge (tgt := 342) C d_X2_worth_334 (by decide) ?_ ?_
          · refine sa_lload C d_X2_worth_342 8 rfl ?_
            refine sa_lload C d_X2_worth_344 1 rfl ?_
            refine sa_lcmp C d_X2_worth_346 ?_
            refine sa_if_le (tgt := 355) C d_X2_worth_347 (by decide) ?_ ?_
            · refine sa_bipush (v := 9) C d_X2_worth_355 (by decide) ?_
              exact sa_sub [2, 3, 4, 5, 6] rfl (hj357 _)
            refine sa_bipush (v := 11) C d_X2_worth_350 (by decide) ?_
            refine sa_goto (tgt := 357) C d_X2_worth_352 (by decide) ?_
            exact sa_sub [2, 3, 4, 5, 6] rfl (hj357 _)
          refine sa_bipush (v := 10) C d_X2_worth_337 (by decide) ?_
          refine sa_goto (tgt := 357) C d_X2_worth_339 (by decide) ?_
          exact sa_sub [2, 3, 4, 5, 6] rfl (hj357 _)
        refine sa_if_le (tgt := 105) C d_X2_worth_90 (by decide) ?_ ?_
        · refine sa_lconst (v := 0) C d_X2_worth_105 (by decide) ?_
          exact sa_sub [1, 2, 3, 4, 5, 6, 0] rfl (hj106 _)
        refine sa_aload_n C d_X2_worth_93 rfl 1 rfl ?_
        refine sa_getR C fd_X2_15 rfl d_X2_worth_94 (fun v46 => ?_)
        refine sa_iload_n C d_X2_worth_97 rfl 3 rfl ?_
        refine sa_iconst (v := 1) C d_X2_worth_98 (by decide) ?_
        refine sa_isub C d_X2_worth_99 ?_
        refine sa_iald C d_X2_worth_100 (fun v47 => ?_)
        refine sa_i2l C d_X2_worth_101 ?_
        refine sa_goto (tgt := 106) C d_X2_worth_102 (by decide) ?_
        exact sa_sub [1, 2, 3, 4, 5, 6, 0] rfl (hj106 _)
      refine sa_icmp_le (tgt := 86) C d_X2_worth_71 (by decide) ?_ ?_
      · refine sa_lconst (v := 0) C d_X2_worth_86 (by decide) ?_
        exact sa_sub [0, 1, 2, 3, 4, 5] rfl (hj87 _)
      refine sa_aload_n C d_X2_worth_74 rfl 0 rfl ?_
      refine sa_getR C fd_X2_15 rfl d_X2_worth_75 (fun v48 => ?_)
      refine sa_iload_n C d_X2_worth_78 rfl 2 rfl ?_
      refine sa_iconst (v := 2) C d_X2_worth_79 (by decide) ?_
      refine sa_isub C d_X2_worth_80 ?_
      refine sa_iald C d_X2_worth_81 (fun v49 => ?_)
      refine sa_i2l C d_X2_worth_82 ?_
      refine sa_goto (tgt := 87) C d_X2_worth_83 (by decide) ?_
      exact sa_sub [0, 1, 2, 3, 4, 5] rfl (hj87 _)
    exact sa_sub [] rfl (hj67)
  refine sa_icmp_lt (tgt := 53) C d_X2_worth_46 (by decide) ?_ ?_
  · refine sa_iload C d_X2_worth_53 1 rfl ?_
    refine sa_iconst (v := 2) C d_X2_worth_55 (by decide) ?_
    refine sa_icmp_lt (tgt := 63) C d_X2_worth_56 (by decide) ?_ ?_
    · refine sa_iconst (v := 0) C d_X2_worth_63 (by decide) ?_
      exact sa_sub [2, 3, 4, 5, 1, 0] rfl (hj64 _)
    refine sa_iconst (v := 1) C d_X2_worth_59 (by decide) ?_
    refine sa_goto (tgt := 64) C d_X2_worth_60 (by decide) ?_
    exact sa_sub [2, 3, 4, 5, 1, 0] rfl (hj64 _)
  refine sa_iconst (v := 2) C d_X2_worth_49 (by decide) ?_
  refine sa_goto (tgt := 64) C d_X2_worth_50 (by decide) ?_
  exact sa_sub [2, 3, 4, 5, 1, 0] rfl (hj64 _)
theorem k_X2_worth (this : Nat) (a1 : Nat) : sa_Met 1 yX2_worth cX2_worth 12 (some .int) (fun ad => [.ref (ad this), .ref (ad a1)]) sa_eI (f_X2_worth this a1) := sa_mk (by decide) (fun ad => Nat.le_of_ble_eq_true rfl) (fun p l e s m args below meth c D ad cA A C => b_X2_worth this a1 C)
theorem gd_X2_worth (this : Nat) (a1 : Nat) (σ : sa_St) (r : Int32) (τ : sa_St) (h : f_X2_worth this a1 σ = some (r, τ)) : sa_sh this = some (.inl 2) := sa_gd_ok h
theorem d_X3_loss_0 : decode cX3_loss 0 = .ok (.iload_n 2, 1) := by decide +kernel
theorem d_X3_loss_1 : decode cX3_loss 1 = .ok (.iload_n 3, 1) := by decide +kernel
theorem d_X3_loss_2 : decode cX3_loss 2 = .ok (.iconst 3, 1) := by decide +kernel
theorem d_X3_loss_3 : decode cX3_loss 3 = .ok (.idiv, 1) := by decide +kernel
theorem d_X3_loss_4 : decode cX3_loss 4 = .ok (.isub, 1) := by decide +kernel
theorem d_X3_loss_5 : decode cX3_loss 5 = .ok (.istore 6, 2) := by decide +kernel
theorem d_X3_loss_7 : decode cX3_loss 7 = .ok (.aload_n 0, 1) := by decide +kernel
theorem d_X3_loss_8 : decode cX3_loss 8 = .ok (.getfield 29, 3) := by decide +kernel
theorem d_X3_loss_11 : decode cX3_loss 11 = .ok (.ifCond .lt 69, 3) := by decide +kernel
theorem d_X3_loss_14 : decode cX3_loss 14 = .ok (.aload_n 0, 1) := by decide +kernel
theorem d_X3_loss_15 : decode cX3_loss 15 = .ok (.getfield 29, 3) := by decide +kernel
theorem d_X3_loss_18 : decode cX3_loss 18 = .ok (.aload_n 0, 1) := by decide +kernel
theorem d_X3_loss_19 : decode cX3_loss 19 = .ok (.getfield 34, 3) := by decide +kernel
theorem d_X3_loss_22 : decode cX3_loss 22 = .ok (.if_icmp .ge 58, 3) := by decide +kernel
theorem d_X3_loss_25 : decode cX3_loss 25 = .ok (.aload_n 0, 1) := by decide +kernel
theorem d_X3_loss_26 : decode cX3_loss 26 = .ok (.getfield 25, 3) := by decide +kernel
theorem d_X3_loss_29 : decode cX3_loss 29 = .ok (.iconst 0, 1) := by decide +kernel
theorem d_X3_loss_30 : decode cX3_loss 30 = .ok (.iload_n 1, 1) := by decide +kernel
theorem d_X3_loss_31 : decode cX3_loss 31 = .ok (.iastore, 1) := by decide +kernel
theorem d_X3_loss_32 : decode cX3_loss 32 = .ok (.aload_n 0, 1) := by decide +kernel
theorem d_X3_loss_33 : decode cX3_loss 33 = .ok (.getfield 25, 3) := by decide +kernel
theorem d_X3_loss_36 : decode cX3_loss 36 = .ok (.iconst 1, 1) := by decide +kernel
theorem d_X3_loss_37 : decode cX3_loss 37 = .ok (.iload_n 2, 1) := by decide +kernel
theorem d_X3_loss_38 : decode cX3_loss 38 = .ok (.iastore, 1) := by decide +kernel
theorem d_X3_loss_39 : decode cX3_loss 39 = .ok (.aload_n 0, 1) := by decide +kernel
theorem d_X3_loss_40 : decode cX3_loss 40 = .ok (.getfield 25, 3) := by decide +kernel
theorem d_X3_loss_43 : decode cX3_loss 43 = .ok (.iconst 2, 1) := by decide +kernel
theorem d_X3_loss_44 : decode cX3_loss 44 = .ok (.iload_n 3, 1) := by decide +kernel
theorem d_X3_loss_45 : decode cX3_loss 45 = .ok (.iastore, 1) := by decide +kernel
theorem d_X3_loss_46 : decode cX3_loss 46 = .ok (.aload_n 0, 1) := by decide +kernel
theorem d_X3_loss_47 : decode cX3_loss 47 = .ok (.getfield 25, 3) := by decide +kernel
theorem d_X3_loss_50 : decode cX3_loss 50 = .ok (.iconst 3, 1) := by decide +kernel
theorem d_X3_loss_51 : decode cX3_loss 51 = .ok (.iload 4, 2) := by decide +kernel
theorem d_X3_loss_53 : decode cX3_loss 53 = .ok (.iastore, 1) := by decide +kernel
theorem d_X3_loss_54 : decode cX3_loss 54 = .ok (.aload_n 0, 1) := by decide +kernel
theorem d_X3_loss_55 : decode cX3_loss 55 = .ok (.getfield 25, 3) := by decide +kernel
theorem d_X3_loss_58 : decode cX3_loss 58 = .ok (.iconst 4, 1) := by decide +kernel
theorem d_X3_loss_59 : decode cX3_loss 59 = .ok (.iload 5, 2) := by decide +kernel
theorem d_X3_loss_61 : decode cX3_loss 61 = .ok (.iastore, 1) := by decide +kernel
theorem d_X3_loss_62 : decode cX3_loss 62 = .ok (.aload_n 0, 1) := by decide +kernel
theorem d_X3_loss_63 : decode cX3_loss 63 = .ok (.getfield 11, 3) := by decide +kernel
theorem d_X3_loss_66 : decode cX3_loss 66 = .ok (.aload_n 0, 1) := by decide +kernel
theorem d_X3_loss_67 : decode cX3_loss 67 = .ok (.getfield 29, 3) := by decide +kernel
theorem d_X3_loss_70 : decode cX3_loss 70 = .ok (.aaload, 1) := by decide +kernel
theorem d_X3_loss_71 : decode cX3_loss 71 = .ok (.aload_n 0, 1) := by decide +kernel
theorem d_X3_loss_72 : decode cX3_loss 72 = .ok (.getfield 25, 3) := by decide +kernel
theorem d_X3_loss_75 : decode cX3_loss 75 = .ok (.invokevirtual 37, 3) := by decide +kernel
theorem d_X3_loss_78 : decode cX3_loss 78 = .ok (.istore 6, 2) := by decide +kernel
theorem d_X3_loss_80 : decode cX3_loss 80 = .ok (.iconst 0, 1) := by decide +kernel
theorem d_X3_loss_81 : decode cX3_loss 81 = .ok (.iload 6, 2) := by decide +kernel
theorem d_X3_loss_83 : decode cX3_loss 83 = .ok (.bipush 99, 2) := by decide +kernel
theorem d_X3_loss_85 : decode cX3_loss 85 = .ok (.invokestatic 41, 3) := by decide +kernel
theorem d_X3_loss_88 : decode cX3_loss 88 = .ok (.iload_n 1, 1) := by decide +kernel
theorem d_X3_loss_89 : decode cX3_loss 89 = .ok (.invokestatic 41, 3) := by decide +kernel
theorem d_X3_loss_92 : decode cX3_loss 92 = .ok (.invokestatic 47, 3) := by decide +kernel
theorem d_X3_loss_95 : decode cX3_loss 95 = .ok (.ireturn, 1) := by decide +kernel
def f_X3_loss (this : Nat) (a1 : Int32) (a2 : Int32) (a3 : Int32) (a4 : Int32) (a5 : Int32) : sa_M Int32 :=
sa_gd 3 this (
sa_bnd (sa_dv a3 3) fun v1 =>
sa_let ((a2 - v1) : Int32) fun x2 =>
sa_bnd (sa_rdI 3 this 3) fun v3 =>
sa_jn1 (fun (x4 : Int32) =>
sa_ret ((sa_max 0 (sa_min (sa_min x4 99) a1)) : Int32)) fun j80 =>
if v3 < 0 then
j80 x2
else
sa_bnd (sa_rdI 3 this 3) fun v5 =>
sa_bnd (sa_rdI 3 this 2) fun v6 =>
if v6 ≤ v5 then
j80 x2
else
sa_bnd (sa_rdR 3 this 1) fun v7 =>
sa_bnd (sa_stI v7 0 a1) fun _ =>
sa_bnd (sa_rdR 3 this 1) fun v8 =>
sa_bnd (sa_stI v8 1 a2) fun _ =>
sa_bnd (sa_rdR 3 this 1) fun v9 =>
sa_bnd (sa_stI v9 2 a3) fun _ =>
sa_bnd (sa_rdR 3 this 1) fun v10 =>
sa_bnd (sa_stI v10 3 a4) fun _ =>
sa_bnd (sa_rdR 3 this 1) fun v11 =>
sa_bnd (sa_stI v11 4 a5) fun _ =>
sa_bnd (sa_rdR 3 this 0) fun v12 =>
sa_bnd (sa_rdI 3 this 3) fun v13 =>
sa_bnd (sa_ldR (.object "SaltArmy$Law") v12 v13) fun v14 =>
sa_bnd (sa_rdR 3 this 1) fun v15 =>
sa_bnd (f_X2_worth v14 v15) fun v16 =>
j80 v16)
set_option maxHeartbeats 1000000 in
set_option maxRecDepth 10000 in
theorem b_X3_loss {p : Program} {l : Launch} {e : Env} {s : State} {m : MethodId} {args : Array Value} {below : List Frame} {meth : Method} {c : Code} {D : va_G} {ad : Nat → Nat} {cA : FieldType → ClassId} {A : Nat → Prop} (this : Nat) (a1 : Int32) (a2 : Int32) (a3 : Int32) (a4 : Int32) (a5 : Int32) (C : sa_C p s m args meth c cX3_loss RX3 "loss" 7 (some .int) D ad cA A) : sa_Sg p l e s m args below meth c 7 2 D ad cA A sa_eI 0 [(0, .ref (ad this)), (1, .int a1), (2, .int a2), (3, .int a3), (4, .int a4), (5, .int a5)] [] (f_X3_loss this a1 a2 a3 a4 a5) := by
  unfold f_X3_loss
  refine sa_gdI ?_
  refine sa_iload_n C d_X3_loss_0 rfl 2 rfl ?_
  refine sa_iload_n C d_X3_loss_1 rfl 3 rfl ?_
  refine sa_iconst (v := 3) C d_X3_loss_2 (by decide) ?_
  refine sa_idiv C d_X3_loss_3 (fun v1 => ?_)
  refine sa_isub C d_X3_loss_4 ?_
  refine sa_topi (fun x2 => ?_)
  refine sa_istore (lv' := [(6, .int x2), (0, .ref (ad this)), (1, .int a1), (2, .int a2), (3, .int a3), (4, .int a4), (5, .int a5)]) C d_X3_loss_5 (by decide) rfl ?_
  refine sa_aload_n C d_X3_loss_7 rfl 1 rfl ?_
  refine sa_getI C fd_X3_29 d_X3_loss_8 (fun v3 => ?_)
  refine sa_join1 80 (fun x4 => [(1, .int a1), (6, .int x4)]) (fun x4 => []) (fun x4 => ?_) (fun j80 hj80 => ?_)
  · refine sa_iconst (v := 0) C d_X3_loss_80 (by decide) ?_
    refine sa_iload C d_X3_loss_81 1 rfl ?_
    refine sa_bipush (v := 99) C d_X3_loss_83 (by decide) ?_
    refine sa_mmin C q816 (Nat.le_of_ble_eq_true rfl) (by decide) q530 q130 q531 d_X3_loss_85 ?_
    refine sa_iload_n C d_X3_loss_88 rfl 0 rfl ?_
    refine sa_mmin C q816 (Nat.le_of_ble_eq_true rfl) (by decide) q530 q130 q531 d_X3_loss_89 ?_
    refine sa_mmax C q817 (Nat.le_of_ble_eq_true rfl) (by decide) q527 q130 q528 d_X3_loss_92 ?_
    exact sa_iret C d_X3_loss_95
  refine sa_if_lt (tgt := 80) C d_X3_loss_11 (by decide) ?_ ?_
  · exact sa_sub [2, 0] rfl (hj80 _)
  refine sa_aload_n C d_X3_loss_14 rfl 1 rfl ?_
  refine sa_getI C fd_X3_29 d_X3_loss_15 (fun v5 => ?_)
  refine sa_aload_n C d_X3_loss_18 rfl 1 rfl ?_
  refine sa_getI C fd_X3_34 d_X3_loss_19 (fun v6 => ?_)
  refine sa_icmp_ge (tgt := 80) C d_X3_loss_22 (by decide) ?_ ?_
  · exact sa_sub [2, 0] rfl (hj80 _)
  refine sa_aload_n C d_X3_loss_25 rfl 1 rfl ?_
  refine sa_getR C fd_X3_25 rfl d_X3_loss_26 (fun v7 => ?_)
  refine sa_iconst (v := 0) C d_X3_loss_29 (by decide) ?_
  refine sa_iload_n C d_X3_loss_30 rfl 2 rfl ?_
  refine sa_iast C d_X3_loss_31 ?_
  refine sa_aload_n C d_X3_loss_32 rfl 1 rfl ?_
  refine sa_getR C fd_X3_25 rfl d_X3_loss_33 (fun v8 => ?_)
  refine sa_iconst (v := 1) C d_X3_loss_36 (by decide) ?_
  refine sa_iload_n C d_X3_loss_37 rfl 3 rfl ?_
  refine sa_iast C d_X3_loss_38 ?_
  refine sa_aload_n C d_X3_loss_39 rfl 1 rfl ?_
  refine sa_getR C fd_X3_25 rfl d_X3_loss_40 (fun v9 => ?_)
  refine sa_iconst (v := 2) C d_X3_loss_43 (by decide) ?_
  refine sa_iload_n C d_X3_loss_44 rfl 4 rfl ?_
  refine sa_iast C d_X3_loss_45 ?_
  refine sa_aload_n C d_X3_loss_46 rfl 1 rfl ?_
  refine sa_getR C fd_X3_25 rfl d_X3_loss_47 (fun v10 => ?_)
  refine sa_iconst (v := 3) C d_X3_loss_50 (by decide) ?_
  refine sa_iload C d_X3_loss_51 5 rfl ?_
  refine sa_iast C d_X3_loss_53 ?_
  refine sa_aload_n C d_X3_loss_54 rfl 1 rfl ?_
  refine sa_getR C fd_X3_25 rfl d_X3_loss_55 (fun v11 => ?_)
  refine sa_iconst (v := 4) C d_X3_loss_58 (by decide) ?_
  refine sa_iload C d_X3_loss_59 6 rfl ?_
  refine sa_iast C d_X3_loss_61 ?_
  refine sa_aload_n C d_X3_loss_62 rfl 1 rfl ?_
  refine sa_getR C fd_X3_11 rfl d_X3_loss_63 (fun v12 => ?_)
  refine sa_aload_n C d_X3_loss_66 rfl 1 rfl ?_
  refine sa_getI C fd_X3_29 d_X3_loss_67 (fun v13 => ?_)
  refine sa_aaldLaw C d_X3_loss_70 (fun v14 => ?_)
  refine sa_aload_n C d_X3_loss_71 rfl 1 rfl ?_
  refine sa_getR C fd_X3_25 rfl d_X3_loss_72 (fun v15 => ?_)
  refine sa_invV (ci := 2) C (k_X2_worth v14 v15) q813 ds_X2_worth q119 rfl q811 q812 q810 (gd_X2_worth v14 v15) rfl rfl rfl (Nat.le_of_ble_eq_true rfl) (by decide) (by decide) d_X3_loss_75 (fun v16 => ?_)
  refine sa_istore (lv' := [(6, .int v16), (0, .ref (ad this)), (1, .int a1), (2, .int a2), (3, .int a3), (4, .int a4), (5, .int a5)]) C d_X3_loss_78 (by decide) rfl ?_
  exact sa_sub [2, 0] rfl (hj80 _)
theorem k_X3_loss (this : Nat) (a1 : Int32) (a2 : Int32) (a3 : Int32) (a4 : Int32) (a5 : Int32) : sa_Met 2 yX3_loss cX3_loss 7 (some .int) (fun ad => [.ref (ad this), .int a1, .int a2, .int a3, .int a4, .int a5]) sa_eI (f_X3_loss this a1 a2 a3 a4 a5) := sa_mk (by decide) (fun ad => Nat.le_of_ble_eq_true rfl) (fun p l e s m args below meth c D ad cA A C => b_X3_loss this a1 a2 a3 a4 a5 C)
theorem gd_X3_loss (this : Nat) (a1 : Int32) (a2 : Int32) (a3 : Int32) (a4 : Int32) (a5 : Int32) (σ : sa_St) (r : Int32) (τ : sa_St) (h : f_X3_loss this a1 a2 a3 a4 a5 σ = some (r, τ)) : sa_sh this = some (.inl 3) := sa_gd_ok h
theorem d_X2_add_0 : decode cX2_add 0 = .ok (.aload_n 0, 1) := by decide +kernel
theorem d_X2_add_1 : decode cX2_add 1 = .ok (.getfield 18, 3) := by decide +kernel
theorem d_X2_add_4 : decode cX2_add 4 = .ok (.aload_n 0, 1) := by decide +kernel
theorem d_X2_add_5 : decode cX2_add 5 = .ok (.getfield 9, 3) := by decide +kernel
theorem d_X2_add_8 : decode cX2_add 8 = .ok (.arraylength, 1) := by decide +kernel
theorem d_X2_add_9 : decode cX2_add 9 = .ok (.if_icmp .ge 27, 3) := by decide +kernel
theorem d_X2_add_12 : decode cX2_add 12 = .ok (.aload_n 0, 1) := by decide +kernel
theorem d_X2_add_13 : decode cX2_add 13 = .ok (.getfield 9, 3) := by decide +kernel
theorem d_X2_add_16 : decode cX2_add 16 = .ok (.aload_n 0, 1) := by decide +kernel
theorem d_X2_add_17 : decode cX2_add 17 = .ok (.getfield 18, 3) := by decide +kernel
theorem d_X2_add_20 : decode cX2_add 20 = .ok (.iload_n 2, 1) := by decide +kernel
theorem d_X2_add_21 : decode cX2_add 21 = .ok (.iconst 4, 1) := by decide +kernel
theorem d_X2_add_22 : decode cX2_add 22 = .ok (.ishl, 1) := by decide +kernel
theorem d_X2_add_23 : decode cX2_add 23 = .ok (.iload_n 1, 1) := by decide +kernel
theorem d_X2_add_24 : decode cX2_add 24 = .ok (.ior, 1) := by decide +kernel
theorem d_X2_add_25 : decode cX2_add 25 = .ok (.iastore, 1) := by decide +kernel
theorem d_X2_add_26 : decode cX2_add 26 = .ok (.aload_n 0, 1) := by decide +kernel
theorem d_X2_add_27 : decode cX2_add 27 = .ok (.dup, 1) := by decide +kernel
theorem d_X2_add_28 : decode cX2_add 28 = .ok (.getfield 18, 3) := by decide +kernel
theorem d_X2_add_31 : decode cX2_add 31 = .ok (.iconst 1, 1) := by decide +kernel
theorem d_X2_add_32 : decode cX2_add 32 = .ok (.iadd, 1) := by decide +kernel
theorem d_X2_add_33 : decode cX2_add 33 = .ok (.putfield 18, 3) := by decide +kernel
theorem d_X2_add_36 : decode cX2_add 36 = .ok (.return_, 1) := by decide +kernel
def f_X2_add (this : Nat) (a1 : Int32) (a2 : Int32) : sa_M Unit :=
sa_gd 2 this (
sa_bnd (sa_rdI 2 this 2) fun v1 =>
sa_bnd (sa_rdR 2 this 0) fun v2 =>
sa_bnd (sa_len .int v2) fun v3 =>
sa_jn0 (sa_ret ()) fun j36 =>
if v3 ≤ v1 then
j36
else
sa_bnd (sa_rdR 2 this 0) fun v4 =>
sa_bnd (sa_rdI 2 this 2) fun v5 =>
sa_bnd (sa_stI v4 v5 ((a2 <<< (4 &&& 31)) ||| a1)) fun _ =>
sa_bnd (sa_rdI 2 this 2) fun v6 =>
sa_bnd (sa_wrI 2 this 2 (v6 + 1)) fun _ =>
j36)
set_option maxHeartbeats 1000000 in
set_option maxRecDepth 10000 in
theorem b_X2_add {p : Program} {l : Launch} {e : Env} {s : State} {m : MethodId} {args : Array Value} {below : List Frame} {meth : Method} {c : Code} {D : va_G} {ad : Nat → Nat} {cA : FieldType → ClassId} {A : Nat → Prop} (this : Nat) (a1 : Int32) (a2 : Int32) (C : sa_C p s m args meth c cX2_add RX2 "add" 3 none D ad cA A) : sa_Sg p l e s m args below meth c 3 1 D ad cA A sa_eV 0 [(0, .ref (ad this)), (1, .int a1), (2, .int a2)] [] (f_X2_add this a1 a2) := by
  unfold f_X2_add
  refine sa_gdI ?_
  refine sa_aload_n C d_X2_add_0 rfl 0 rfl ?_
  refine sa_getI C fd_X2_18 d_X2_add_1 (fun v1 => ?_)
  refine sa_aload_n C d_X2_add_4 rfl 0 rfl ?_
  refine sa_getR C fd_X2_9 rfl d_X2_add_5 (fun v2 => ?_)
  refine sa_alenI C d_X2_add_8 (fun v3 => ?_)
  refine sa_join0 36 ([]) ([]) (?_) (fun j36 hj36 => ?_)
  · exact sa_vret C d_X2_add_36
  refine sa_icmp_ge (tgt := 36) C d_X2_add_9 (by decide) ?_ ?_
  · exact sa_sub [] rfl (hj36)
  refine sa_aload_n C d_X2_add_12 rfl 0 rfl ?_
  refine sa_getR C fd_X2_9 rfl d_X2_add_13 (fun v4 => ?_)
  refine sa_aload_n C d_X2_add_16 rfl 0 rfl ?_
  refine sa_getI C fd_X2_18 d_X2_add_17 (fun v5 => ?_)
  refine sa_iload_n C d_X2_add_20 rfl 2 rfl ?_
  refine sa_iconst (v := 4) C d_X2_add_21 (by decide) ?_
  refine sa_ishl C d_X2_add_22 ?_
  refine sa_iload_n C d_X2_add_23 rfl 1 rfl ?_
  refine sa_ior C d_X2_add_24 ?_
  refine sa_iast C d_X2_add_25 ?_
  refine sa_aload_n C d_X2_add_26 rfl 0 rfl ?_
  refine sa_dup C d_X2_add_27 rfl ?_
  refine sa_getI C fd_X2_18 d_X2_add_28 (fun v6 => ?_)
  refine sa_iconst (v := 1) C d_X2_add_31 (by decide) ?_
  refine sa_iadd C d_X2_add_32 ?_
  refine sa_putI C fd_X2_18 d_X2_add_33 ?_
  exact sa_sub [] rfl (hj36)
theorem k_X2_add (this : Nat) (a1 : Int32) (a2 : Int32) : sa_Met 1 yX2_add cX2_add 3 none (fun ad => [.ref (ad this), .int a1, .int a2]) sa_eV (f_X2_add this a1 a2) := sa_mk (by decide) (fun ad => Nat.le_of_ble_eq_true rfl) (fun p l e s m args below meth c D ad cA A C => b_X2_add this a1 a2 C)
theorem gd_X2_add (this : Nat) (a1 : Int32) (a2 : Int32) (σ : sa_St) (r : Unit) (τ : sa_St) (h : f_X2_add this a1 a2 σ = some (r, τ)) : sa_sh this = some (.inl 2) := sa_gd_ok h
theorem d_X2_readSum_0 : decode cX2_readSum 0 = .ok (.aload_n 0, 1) := by decide +kernel
theorem d_X2_readSum_1 : decode cX2_readSum 1 = .ok (.aload_n 1, 1) := by decide +kernel
theorem d_X2_readSum_2 : decode cX2_readSum 2 = .ok (.iload_n 2, 1) := by decide +kernel
theorem d_X2_readSum_3 : decode cX2_readSum 3 = .ok (.invokevirtual 70, 3) := by decide +kernel
theorem d_X2_readSum_6 : decode cX2_readSum 6 = .ok (.ifCond .ne 5, 3) := by decide +kernel
theorem d_X2_readSum_9 : decode cX2_readSum 9 = .ok (.iconst 0, 1) := by decide +kernel
theorem d_X2_readSum_10 : decode cX2_readSum 10 = .ok (.ireturn, 1) := by decide +kernel
theorem d_X2_readSum_11 : decode cX2_readSum 11 = .ok (.iconst 0, 1) := by decide +kernel
theorem d_X2_readSum_12 : decode cX2_readSum 12 = .ok (.istore_n 3, 1) := by decide +kernel
theorem d_X2_readSum_13 : decode cX2_readSum 13 = .ok (.iload_n 3, 1) := by decide +kernel
theorem d_X2_readSum_14 : decode cX2_readSum 14 = .ok (.sipush 240, 3) := by decide +kernel
theorem d_X2_readSum_17 : decode cX2_readSum 17 = .ok (.if_icmp .ge 72, 3) := by decide +kernel
theorem d_X2_readSum_20 : decode cX2_readSum 20 = .ok (.aload_n 1, 1) := by decide +kernel
theorem d_X2_readSum_21 : decode cX2_readSum 21 = .ok (.invokevirtual 37, 3) := by decide +kernel
theorem d_X2_readSum_24 : decode cX2_readSum 24 = .ok (.bipush 43, 2) := by decide +kernel
theorem d_X2_readSum_26 : decode cX2_readSum 26 = .ok (.if_icmp .ne 7, 3) := by decide +kernel
theorem d_X2_readSum_29 : decode cX2_readSum 29 = .ok (.iconst 1, 1) := by decide +kernel
theorem d_X2_readSum_30 : decode cX2_readSum 30 = .ok (.goto 4, 3) := by decide +kernel
theorem d_X2_readSum_33 : decode cX2_readSum 33 = .ok (.iconst 0, 1) := by decide +kernel
theorem d_X2_readSum_34 : decode cX2_readSum 34 = .ok (.istore 4, 2) := by decide +kernel
theorem d_X2_readSum_36 : decode cX2_readSum 36 = .ok (.iload 4, 2) := by decide +kernel
theorem d_X2_readSum_38 : decode cX2_readSum 38 = .ok (.ifCond .ne 14, 3) := by decide +kernel
theorem d_X2_readSum_41 : decode cX2_readSum 41 = .ok (.aload_n 1, 1) := by decide +kernel
theorem d_X2_readSum_42 : decode cX2_readSum 42 = .ok (.invokevirtual 37, 3) := by decide +kernel
theorem d_X2_readSum_45 : decode cX2_readSum 45 = .ok (.bipush 45, 2) := by decide +kernel
theorem d_X2_readSum_47 : decode cX2_readSum 47 = .ok (.if_icmp .eq 5, 3) := by decide +kernel
theorem d_X2_readSum_50 : decode cX2_readSum 50 = .ok (.iconst 1, 1) := by decide +kernel
theorem d_X2_readSum_51 : decode cX2_readSum 51 = .ok (.ireturn, 1) := by decide +kernel
theorem d_X2_readSum_52 : decode cX2_readSum 52 = .ok (.aload_n 1, 1) := by decide +kernel
theorem d_X2_readSum_53 : decode cX2_readSum 53 = .ok (.invokevirtual 67, 3) := by decide +kernel
theorem d_X2_readSum_56 : decode cX2_readSum 56 = .ok (.aload_n 0, 1) := by decide +kernel
theorem d_X2_readSum_57 : decode cX2_readSum 57 = .ok (.aload_n 1, 1) := by decide +kernel
theorem d_X2_readSum_58 : decode cX2_readSum 58 = .ok (.iload_n 2, 1) := by decide +kernel
theorem d_X2_readSum_59 : decode cX2_readSum 59 = .ok (.invokevirtual 70, 3) := by decide +kernel
theorem d_X2_readSum_62 : decode cX2_readSum 62 = .ok (.ifCond .ne 5, 3) := by decide +kernel
theorem d_X2_readSum_65 : decode cX2_readSum 65 = .ok (.iconst 0, 1) := by decide +kernel
theorem d_X2_readSum_66 : decode cX2_readSum 66 = .ok (.ireturn, 1) := by decide +kernel
theorem d_X2_readSum_67 : decode cX2_readSum 67 = .ok (.aload_n 0, 1) := by decide +kernel
theorem d_X2_readSum_68 : decode cX2_readSum 68 = .ok (.iload 4, 2) := by decide +kernel
theorem d_X2_readSum_70 : decode cX2_readSum 70 = .ok (.ifCond .eq 7, 3) := by decide +kernel
theorem d_X2_readSum_73 : decode cX2_readSum 73 = .ok (.iconst 5, 1) := by decide +kernel
theorem d_X2_readSum_74 : decode cX2_readSum 74 = .ok (.goto 5, 3) := by decide +kernel
theorem d_X2_readSum_77 : decode cX2_readSum 77 = .ok (.bipush 6, 2) := by decide +kernel
theorem d_X2_readSum_79 : decode cX2_readSum 79 = .ok (.iconst 0, 1) := by decide +kernel
theorem d_X2_readSum_80 : decode cX2_readSum 80 = .ok (.invokevirtual 53, 3) := by decide +kernel
theorem d_X2_readSum_83 : decode cX2_readSum 83 = .ok (.iinc 3 1, 3) := by decide +kernel
theorem d_X2_readSum_86 : decode cX2_readSum 86 = .ok (.goto (-73), 3) := by decide +kernel
theorem d_X2_readSum_89 : decode cX2_readSum 89 = .ok (.iconst 1, 1) := by decide +kernel
theorem d_X2_readSum_90 : decode cX2_readSum 90 = .ok (.ireturn, 1) := by decide +kernel
def fb_X2_readSum (g_X2_readSum : Nat → Nat → Int32 → sa_M Int32) (g_X2_readTerm : Nat → Nat → Int32 → sa_M Int32) (g_X2_readAtom : Nat → Nat → Int32 → sa_M Int32) (this : Nat) (a1 : Nat) (a2 : Int32) : sa_M Int32 :=
sa_gd 2 this (
sa_bnd (g_X2_readTerm this a1 a2) fun v1 =>
if ¬ v1 = 0 then
sa_let (0 : Int32) fun x2 =>
sa_wh1 (fun j13 (x3 : Int32) =>
if 240 ≤ x3 then
sa_retZ 1
else
sa_bnd (f_X7_sign a1) fun v4 =>
sa_jn1 (fun (y5 : Int32) =>
sa_jn0 (sa_bnd (f_X7_pass a1) fun _ =>
sa_bnd (g_X2_readTerm this a1 a2) fun v6 =>
if ¬ v6 = 0 then
sa_jn1 (fun (y7 : Int32) =>
sa_bnd (f_X2_add this y7 0) fun _ =>
sa_let ((x3 + 1) : Int32) fun x8 =>
j13 x8) fun j79 =>
if y5 = 0 then
j79 6
else
j79 5
else
sa_retZ 0) fun j52 =>
if ¬ y5 = 0 then
j52
else
sa_bnd (f_X7_sign a1) fun v9 =>
if v9 = 45 then
j52
else
sa_retZ 1) fun j34 =>
if ¬ v4 = 43 then
j34 0
else
j34 1) sa_F x2
else
sa_retZ 0)
set_option maxHeartbeats 1000000 in
set_option maxRecDepth 10000 in
theorem b_X2_readSum {d : Nat} (hd0 : 4 ≤ d) (g_X2_readSum : Nat → Nat → Int32 → sa_M Int32) (g_X2_readTerm : Nat → Nat → Int32 → sa_M Int32) (g_X2_readAtom : Nat → Nat → Int32 → sa_M Int32) (h_X2_readSum : ∀ (this : Nat) (a1 : Nat) (a2 : Int32), sa_Met d yX2_readSum cX2_readSum 5 (some .boolean) (fun ad => [.ref (ad this), .ref (ad a1), .int a2]) sa_eI (g_X2_readSum this a1 a2)) (e_X2_readSum : ∀ (this : Nat) (a1 : Nat) (a2 : Int32) σ r τ, g_X2_readSum this a1 a2 σ = some (r, τ) → sa_sh this = some (.inl 2)) (h_X2_readTerm : ∀ (this : Nat) (a1 : Nat) (a2 : Int32), sa_Met d yX2_readTerm cX2_readTerm 5 (some .boolean) (fun ad => [.ref (ad this), .ref (ad a1), .int a2]) sa_eI (g_X2_readTerm this a1 a2)) (e_X2_readTerm : ∀ (this : Nat) (a1 : Nat) (a2 : Int32) σ r τ, g_X2_readTerm this a1 a2 σ = some (r, τ) → sa_sh this = some (.inl 2)) (h_X2_readAtom : ∀ (this : Nat) (a1 : Nat) (a2 : Int32), sa_Met d yX2_readAtom cX2_readAtom 5 (some .boolean) (fun ad => [.ref (ad this), .ref (ad a1), .int a2]) sa_eI (g_X2_readAtom this a1 a2)) (e_X2_readAtom : ∀ (this : Nat) (a1 : Nat) (a2 : Int32) σ r τ, g_X2_readAtom this a1 a2 σ = some (r, τ) → sa_sh this = some (.inl 2)) {p : Program} {l : Launch} {e : Env} {s : State} {m : MethodId} {args : Array Value} {below : List Frame} {meth : Method} {c : Code} {D : va_G} {ad : Nat → Nat} {cA : FieldType → ClassId} {A : Nat → Prop} (this : Nat) (a1 : Nat) (a2 : Int32) (C : sa_C p s m args meth c cX2_readSum RX2 "readSum" 5 (some .boolean) D ad cA A) : sa_Sg p l e s m args below meth c 5 (d + 1) D ad cA A sa_eI 0 [(0, .ref (ad this)), (1, .ref (ad a1)), (2, .int a2)] [] (fb_X2_readSum g_X2_readSum g_X2_readTerm g_X2_readAtom this a1 a2) := by
  unfold fb_X2_readSum
  refine sa_gdI ?_
  refine sa_aload_n C d_X2_readSum_0 rfl 0 rfl ?_
  refine sa_aload_n C d_X2_readSum_1 rfl 1 rfl ?_
  refine sa_iload_n C d_X2_readSum_2 rfl 2 rfl ?_
  refine sa_invV (ci := 2) C (h_X2_readTerm this a1 a2) q675 ds_X2_readTerm q119 rfl q674 q7 q672 (e_X2_readTerm this a1 a2) rfl rfl rfl (Nat.le_of_ble_eq_true rfl) (by omega) (by decide) d_X2_readSum_3 (fun v1 => ?_)
  refine sa_if_ne (tgt := 11) C d_X2_readSum_6 (by decide) ?_ ?_
  · refine sa_iconst (v := 0) C d_X2_readSum_11 (by decide) ?_
    refine sa_topi (fun x2 => ?_)
    refine sa_istore_n (lv' := [(3, .int x2), (0, .ref (ad this)), (1, .ref (ad a1)), (2, .int a2)]) C d_X2_readSum_12 rfl (by decide) rfl ?_
    refine sa_sub [1, 2, 3, 0] rfl (sa_loop1 (fun x3 => [(0, .ref (ad this)), (1, .ref (ad a1)), (2, .int a2), (3, .int x3)]) (fun x3 => []) (fun j13 hj13 x3 => ?_) _ _)
    refine sa_iload_n C d_X2_readSum_13 rfl 3 rfl ?_
    refine sa_sipush (v := 240) C d_X2_readSum_14 (by decide) ?_
    refine sa_icmp_ge (tgt := 89) C d_X2_readSum_17 (by decide) ?_ ?_
    · refine sa_iconst (v := 1) C d_X2_readSum_89 (by decide) ?_
      exact sa_zret C d_X2_readSum_90
    refine sa_aload_n C d_X2_readSum_20 rfl 1 rfl ?_
    refine sa_invV (ci := 7) C (k_X7_sign a1) q506 ds_X7_sign q115 rfl q504 q505 q667 (gd_X7_sign a1) rfl rfl rfl (Nat.le_of_ble_eq_true rfl) (by omega) (by decide) d_X2_readSum_21 (fun v4 => ?_)
    refine sa_bipush (v := 43) C d_X2_readSum_24 (by decide) ?_
    refine sa_join1 34 (fun y5 => [(0, .ref (ad this)), (1, .ref (ad a1)), (2, .int a2), (3, .int x3)]) (fun y5 => [.int y5]) (fun y5 => ?_) (fun j34 hj34 => ?_)
    · refine sa_istore (lv' := [(4, .int y5), (0, .ref (ad this)), (1, .ref (ad a1)), (2, .int a2), (3, .int x3)]) C d_X2_readSum_34 (by decide) rfl ?_
      refine sa_iload C d_X2_readSum_36 0 rfl ?_
      refine sa_join0 52 ([(0, .ref (ad this)), (1, .ref (ad a1)), (2, .int a2), (3, .int x3), (4, .int y5)]) ([]) (?_) (fun j52 hj52 => ?_)
      · refine sa_aload_n C d_X2_readSum_52 rfl 1 rfl ?_
        refine sa_invV (ci := 7) C (k_X7_pass a1) q589 ds_X7_pass q115 rfl q587 q588 q680 (gd_X7_pass a1) rfl rfl rfl (Nat.le_of_ble_eq_true rfl) (by omega) (by decide) d_X2_readSum_53 (fun _ => ?_)
        refine sa_aload_n C d_X2_readSum_56 rfl 0 rfl ?_
        refine sa_aload_n C d_X2_readSum_57 rfl 1 rfl ?_
        refine sa_iload_n C d_X2_readSum_58 rfl 2 rfl ?_
        refine sa_invV (ci := 2) C (h_X2_readTerm this a1 a2) q675 ds_X2_readTerm q119 rfl q674 q7 q672 (e_X2_readTerm this a1 a2) rfl rfl rfl (Nat.le_of_ble_eq_true rfl) (by omega) (by decide) d_X2_readSum_59 (fun v6 => ?_)
        refine sa_if_ne (tgt := 67) C d_X2_readSum_62 (by decide) ?_ ?_
        · refine sa_aload_n C d_X2_readSum_67 rfl 0 rfl ?_
          refine sa_iload C d_X2_readSum_68 4 rfl ?_
          refine sa_join1 79 (fun y7 => [(0, .ref (ad this)), (1, .ref (ad a1)), (2, .int a2), (3, .int x3)]) (fun y7 => [.int y7, .ref (ad this)]) (fun y7 => ?_) (fun j79 hj79 => ?_)
          · refine sa_iconst (v := 0) C d_X2_readSum_79 (by decide) ?_
            refine sa_invV (ci := 2) C (k_X2_add this y7 0) q686 ds_X2_add q119 rfl q685 q9 q683 (gd_X2_add this y7 0) rfl rfl rfl (Nat.le_of_ble_eq_true rfl) (by omega) (by decide) d_X2_readSum_80 (fun _ => ?_)
            refine sa_iinc C (fun zz => [(3, .int zz), (0, .ref (ad this)), (1, .ref (ad a1)), (2, .int a2)]) d_X2_readSum_83 3 rfl rfl (by decide) (fun _ => rfl) (fun x8 => ?_)
            refine sa_goto (tgt := 13) C d_X2_readSum_86 (by decide) ?_
            exact sa_sub [1, 2, 3, 0] rfl (hj13 _)
          refine sa_if_eq (tgt := 77) C d_X2_readSum_70 (by decide) ?_ ?_
          · refine sa_bipush (v := 6) C d_X2_readSum_77 (by decide) ?_
            exact sa_sub [0, 1, 2, 3] rfl (hj79 _)
          refine sa_iconst (v := 5) C d_X2_readSum_73 (by decide) ?_
          refine sa_goto (tgt := 79) C d_X2_readSum_74 (by decide) ?_
          exact sa_sub [0, 1, 2, 3] rfl (hj79 _)
        refine sa_iconst (v := 0) C d_X2_readSum_65 (by decide) ?_
        exact sa_zret C d_X2_readSum_66
      refine sa_if_ne (tgt := 52) C d_X2_readSum_38 (by decide) ?_ ?_
      · exact sa_sub [1, 2, 3, 4, 0] rfl (hj52)
      refine sa_aload_n C d_X2_readSum_41 rfl 2 rfl ?_
      refine sa_invV (ci := 7) C (k_X7_sign a1) q506 ds_X7_sign q115 rfl q504 q505 q667 (gd_X7_sign a1) rfl rfl rfl (Nat.le_of_ble_eq_true rfl) (by omega) (by decide) d_X2_readSum_42 (fun v9 => ?_)
      refine sa_bipush (v := 45) C d_X2_readSum_45 (by decide) ?_
      refine sa_icmp_eq (tgt := 52) C d_X2_readSum_47 (by decide) ?_ ?_
      · exact sa_sub [1, 2, 3, 4, 0] rfl (hj52)
      refine sa_iconst (v := 1) C d_X2_readSum_50 (by decide) ?_
      exact sa_zret C d_X2_readSum_51
    refine sa_icmp_ne (tgt := 33) C d_X2_readSum_26 (by decide) ?_ ?_
    · refine sa_iconst (v := 0) C d_X2_readSum_33 (by decide) ?_
      exact sa_sub [0, 1, 2, 3] rfl (hj34 _)
    refine sa_iconst (v := 1) C d_X2_readSum_29 (by decide) ?_
    refine sa_goto (tgt := 34) C d_X2_readSum_30 (by decide) ?_
    exact sa_sub [0, 1, 2, 3] rfl (hj34 _)
  refine sa_iconst (v := 0) C d_X2_readSum_9 (by decide) ?_
  exact sa_zret C d_X2_readSum_10
theorem d_X2_readTerm_0 : decode cX2_readTerm 0 = .ok (.aload_n 0, 1) := by decide +kernel
theorem d_X2_readTerm_1 : decode cX2_readTerm 1 = .ok (.aload_n 1, 1) := by decide +kernel
theorem d_X2_readTerm_2 : decode cX2_readTerm 2 = .ok (.iload_n 2, 1) := by decide +kernel
theorem d_X2_readTerm_3 : decode cX2_readTerm 3 = .ok (.invokevirtual 73, 3) := by decide +kernel
theorem d_X2_readTerm_6 : decode cX2_readTerm 6 = .ok (.ifCond .ne 5, 3) := by decide +kernel
theorem d_X2_readTerm_9 : decode cX2_readTerm 9 = .ok (.iconst 0, 1) := by decide +kernel
theorem d_X2_readTerm_10 : decode cX2_readTerm 10 = .ok (.ireturn, 1) := by decide +kernel
theorem d_X2_readTerm_11 : decode cX2_readTerm 11 = .ok (.iconst 0, 1) := by decide +kernel
theorem d_X2_readTerm_12 : decode cX2_readTerm 12 = .ok (.istore_n 3, 1) := by decide +kernel
theorem d_X2_readTerm_13 : decode cX2_readTerm 13 = .ok (.iload_n 3, 1) := by decide +kernel
theorem d_X2_readTerm_14 : decode cX2_readTerm 14 = .ok (.sipush 240, 3) := by decide +kernel
theorem d_X2_readTerm_17 : decode cX2_readTerm 17 = .ok (.if_icmp .ge 73, 3) := by decide +kernel
theorem d_X2_readTerm_20 : decode cX2_readTerm 20 = .ok (.aload_n 1, 1) := by decide +kernel
theorem d_X2_readTerm_21 : decode cX2_readTerm 21 = .ok (.invokevirtual 37, 3) := by decide +kernel
theorem d_X2_readTerm_24 : decode cX2_readTerm 24 = .ok (.bipush 42, 2) := by decide +kernel
theorem d_X2_readTerm_26 : decode cX2_readTerm 26 = .ok (.if_icmp .ne 7, 3) := by decide +kernel
theorem d_X2_readTerm_29 : decode cX2_readTerm 29 = .ok (.iconst 1, 1) := by decide +kernel
theorem d_X2_readTerm_30 : decode cX2_readTerm 30 = .ok (.goto 4, 3) := by decide +kernel
theorem d_X2_readTerm_33 : decode cX2_readTerm 33 = .ok (.iconst 0, 1) := by decide +kernel
theorem d_X2_readTerm_34 : decode cX2_readTerm 34 = .ok (.istore 4, 2) := by decide +kernel
theorem d_X2_readTerm_36 : decode cX2_readTerm 36 = .ok (.iload 4, 2) := by decide +kernel
theorem d_X2_readTerm_38 : decode cX2_readTerm 38 = .ok (.ifCond .ne 14, 3) := by decide +kernel
theorem d_X2_readTerm_41 : decode cX2_readTerm 41 = .ok (.aload_n 1, 1) := by decide +kernel
theorem d_X2_readTerm_42 : decode cX2_readTerm 42 = .ok (.invokevirtual 37, 3) := by decide +kernel
theorem d_X2_readTerm_45 : decode cX2_readTerm 45 = .ok (.bipush 47, 2) := by decide +kernel
theorem d_X2_readTerm_47 : decode cX2_readTerm 47 = .ok (.if_icmp .eq 5, 3) := by decide +kernel
theorem d_X2_readTerm_50 : decode cX2_readTerm 50 = .ok (.iconst 1, 1) := by decide +kernel
theorem d_X2_readTerm_51 : decode cX2_readTerm 51 = .ok (.ireturn, 1) := by decide +kernel
theorem d_X2_readTerm_52 : decode cX2_readTerm 52 = .ok (.aload_n 1, 1) := by decide +kernel
theorem d_X2_readTerm_53 : decode cX2_readTerm 53 = .ok (.invokevirtual 67, 3) := by decide +kernel
theorem d_X2_readTerm_56 : decode cX2_readTerm 56 = .ok (.aload_n 0, 1) := by decide +kernel
theorem d_X2_readTerm_57 : decode cX2_readTerm 57 = .ok (.aload_n 1, 1) := by decide +kernel
theorem d_X2_readTerm_58 : decode cX2_readTerm 58 = .ok (.iload_n 2, 1) := by decide +kernel
theorem d_X2_readTerm_59 : decode cX2_readTerm 59 = .ok (.invokevirtual 73, 3) := by decide +kernel
theorem d_X2_readTerm_62 : decode cX2_readTerm 62 = .ok (.ifCond .ne 5, 3) := by decide +kernel
theorem d_X2_readTerm_65 : decode cX2_readTerm 65 = .ok (.iconst 0, 1) := by decide +kernel
theorem d_X2_readTerm_66 : decode cX2_readTerm 66 = .ok (.ireturn, 1) := by decide +kernel
theorem d_X2_readTerm_67 : decode cX2_readTerm 67 = .ok (.aload_n 0, 1) := by decide +kernel
theorem d_X2_readTerm_68 : decode cX2_readTerm 68 = .ok (.iload 4, 2) := by decide +kernel
theorem d_X2_readTerm_70 : decode cX2_readTerm 70 = .ok (.ifCond .eq 8, 3) := by decide +kernel
theorem d_X2_readTerm_73 : decode cX2_readTerm 73 = .ok (.bipush 7, 2) := by decide +kernel
theorem d_X2_readTerm_75 : decode cX2_readTerm 75 = .ok (.goto 5, 3) := by decide +kernel
theorem d_X2_readTerm_78 : decode cX2_readTerm 78 = .ok (.bipush 8, 2) := by decide +kernel
theorem d_X2_readTerm_80 : decode cX2_readTerm 80 = .ok (.iconst 0, 1) := by decide +kernel
theorem d_X2_readTerm_81 : decode cX2_readTerm 81 = .ok (.invokevirtual 53, 3) := by decide +kernel
theorem d_X2_readTerm_84 : decode cX2_readTerm 84 = .ok (.iinc 3 1, 3) := by decide +kernel
theorem d_X2_readTerm_87 : decode cX2_readTerm 87 = .ok (.goto (-74), 3) := by decide +kernel
theorem d_X2_readTerm_90 : decode cX2_readTerm 90 = .ok (.iconst 1, 1) := by decide +kernel
theorem d_X2_readTerm_91 : decode cX2_readTerm 91 = .ok (.ireturn, 1) := by decide +kernel
def fb_X2_readTerm (g_X2_readSum : Nat → Nat → Int32 → sa_M Int32) (g_X2_readTerm : Nat → Nat → Int32 → sa_M Int32) (g_X2_readAtom : Nat → Nat → Int32 → sa_M Int32) (this : Nat) (a1 : Nat) (a2 : Int32) : sa_M Int32 :=
sa_gd 2 this (
sa_bnd (g_X2_readAtom this a1 a2) fun v1 =>
if ¬ v1 = 0 then
sa_let (0 : Int32) fun x2 =>
sa_wh1 (fun j13 (x3 : Int32) =>
if 240 ≤ x3 then
sa_retZ 1
else
sa_bnd (f_X7_sign a1) fun v4 =>
sa_jn1 (fun (y5 : Int32) =>
sa_jn0 (sa_bnd (f_X7_pass a1) fun _ =>
sa_bnd (g_X2_readAtom this a1 a2) fun v6 =>
if ¬ v6 = 0 then
sa_jn1 (fun (y7 : Int32) =>
sa_bnd (f_X2_add this y7 0) fun _ =>
sa_let ((x3 + 1) : Int32) fun x8 =>
j13 x8) fun j80 =>
if y5 = 0 then
j80 8
else
j80 7
else
sa_retZ 0) fun j52 =>
if ¬ y5 = 0 then
j52
else
sa_bnd (f_X7_sign a1) fun v9 =>
if v9 = 47 then
j52
else
sa_retZ 1) fun j34 =>
if ¬ v4 = 42 then
j34 0
else
j34 1) sa_F x2
else
sa_retZ 0)
set_option maxHeartbeats 1000000 in
set_option maxRecDepth 10000 in
theorem b_X2_readTerm {d : Nat} (hd0 : 4 ≤ d) (g_X2_readSum : Nat → Nat → Int32 → sa_M Int32) (g_X2_readTerm : Nat → Nat → Int32 → sa_M Int32) (g_X2_readAtom : Nat → Nat → Int32 → sa_M Int32) (h_X2_readSum : ∀ (this : Nat) (a1 : Nat) (a2 : Int32), sa_Met d yX2_readSum cX2_readSum 5 (some .boolean) (fun ad => [.ref (ad this), .ref (ad a1), .int a2]) sa_eI (g_X2_readSum this a1 a2)) (e_X2_readSum : ∀ (this : Nat) (a1 : Nat) (a2 : Int32) σ r τ, g_X2_readSum this a1 a2 σ = some (r, τ) → sa_sh this = some (.inl 2)) (h_X2_readTerm : ∀ (this : Nat) (a1 : Nat) (a2 : Int32), sa_Met d yX2_readTerm cX2_readTerm 5 (some .boolean) (fun ad => [.ref (ad this), .ref (ad a1), .int a2]) sa_eI (g_X2_readTerm this a1 a2)) (e_X2_readTerm : ∀ (this : Nat) (a1 : Nat) (a2 : Int32) σ r τ, g_X2_readTerm this a1 a2 σ = some (r, τ) → sa_sh this = some (.inl 2)) (h_X2_readAtom : ∀ (this : Nat) (a1 : Nat) (a2 : Int32), sa_Met d yX2_readAtom cX2_readAtom 5 (some .boolean) (fun ad => [.ref (ad this), .ref (ad a1), .int a2]) sa_eI (g_X2_readAtom this a1 a2)) (e_X2_readAtom : ∀ (this : Nat) (a1 : Nat) (a2 : Int32) σ r τ, g_X2_readAtom this a1 a2 σ = some (r, τ) → sa_sh this = some (.inl 2)) {p : Program} {l : Launch} {e : Env} {s : State} {m : MethodId} {args : Array Value} {below : List Frame} {meth : Method} {c : Code} {D : va_G} {ad : Nat → Nat} {cA : FieldType → ClassId} {A : Nat → Prop} (this : Nat) (a1 : Nat) (a2 : Int32) (C : sa_C p s m args meth c cX2_readTerm RX2 "readTerm" 5 (some .boolean) D ad cA A) : sa_Sg p l e s m args below meth c 5 (d + 1) D ad cA A sa_eI 0 [(0, .ref (ad this)), (1, .ref (ad a1)), (2, .int a2)] [] (fb_X2_readTerm g_X2_readSum g_X2_readTerm g_X2_readAtom this a1 a2) := by
  unfold fb_X2_readTerm
  refine sa_gdI ?_
  refine sa_aload_n C d_X2_readTerm_0 rfl 0 rfl ?_
  refine sa_aload_n C d_X2_readTerm_1 rfl 1 rfl ?_
  refine sa_iload_n C d_X2_readTerm_2 rfl 2 rfl ?_
  refine sa_invV (ci := 2) C (h_X2_readAtom this a1 a2) q679 ds_X2_readAtom q119 rfl q678 q8 q676 (e_X2_readAtom this a1 a2) rfl rfl rfl (Nat.le_of_ble_eq_true rfl) (by omega) (by decide) d_X2_readTerm_3 (fun v1 => ?_)
  refine sa_if_ne (tgt := 11) C d_X2_readTerm_6 (by decide) ?_ ?_
  · refine sa_iconst (v := 0) C d_X2_readTerm_11 (by decide) ?_
    refine sa_topi (fun x2 => ?_)
    refine sa_istore_n (lv' := [(3, .int x2), (0, .ref (ad this)), (1, .ref (ad a1)), (2, .int a2)]) C d_X2_readTerm_12 rfl (by decide) rfl ?_
    refine sa_sub [1, 2, 3, 0] rfl (sa_loop1 (fun x3 => [(0, .ref (ad this)), (1, .ref (ad a1)), (2, .int a2), (3, .int x3)]) (fun x3 => []) (fun j13 hj13 x3 => ?_) _ _)
    refine sa_iload_n C d_X2_readTerm_13 rfl 3 rfl ?_
    refine sa_sipush (v := 240) C d_X2_readTerm_14 (by decide) ?_
    refine sa_icmp_ge (tgt := 90) C d_X2_readTerm_17 (by decide) ?_ ?_
    · refine sa_iconst (v := 1) C d_X2_readTerm_90 (by decide) ?_
      exact sa_zret C d_X2_readTerm_91
    refine sa_aload_n C d_X2_readTerm_20 rfl 1 rfl ?_
    refine sa_invV (ci := 7) C (k_X7_sign a1) q506 ds_X7_sign q115 rfl q504 q505 q667 (gd_X7_sign a1) rfl rfl rfl (Nat.le_of_ble_eq_true rfl) (by omega) (by decide) d_X2_readTerm_21 (fun v4 => ?_)
    refine sa_bipush (v := 42) C d_X2_readTerm_24 (by decide) ?_
    refine sa_join1 34 (fun y5 => [(0, .ref (ad this)), (1, .ref (ad a1)), (2, .int a2), (3, .int x3)]) (fun y5 => [.int y5]) (fun y5 => ?_) (fun j34 hj34 => ?_)
    · refine sa_istore (lv' := [(4, .int y5), (0, .ref (ad this)), (1, .ref (ad a1)), (2, .int a2), (3, .int x3)]) C d_X2_readTerm_34 (by decide) rfl ?_
      refine sa_iload C d_X2_readTerm_36 0 rfl ?_
      refine sa_join0 52 ([(0, .ref (ad this)), (1, .ref (ad a1)), (2, .int a2), (3, .int x3), (4, .int y5)]) ([]) (?_) (fun j52 hj52 => ?_)
      · refine sa_aload_n C d_X2_readTerm_52 rfl 1 rfl ?_
        refine sa_invV (ci := 7) C (k_X7_pass a1) q589 ds_X7_pass q115 rfl q587 q588 q680 (gd_X7_pass a1) rfl rfl rfl (Nat.le_of_ble_eq_true rfl) (by omega) (by decide) d_X2_readTerm_53 (fun _ => ?_)
        refine sa_aload_n C d_X2_readTerm_56 rfl 0 rfl ?_
        refine sa_aload_n C d_X2_readTerm_57 rfl 1 rfl ?_
        refine sa_iload_n C d_X2_readTerm_58 rfl 2 rfl ?_
        refine sa_invV (ci := 2) C (h_X2_readAtom this a1 a2) q679 ds_X2_readAtom q119 rfl q678 q8 q676 (e_X2_readAtom this a1 a2) rfl rfl rfl (Nat.le_of_ble_eq_true rfl) (by omega) (by decide) d_X2_readTerm_59 (fun v6 => ?_)
        refine sa_if_ne (tgt := 67) C d_X2_readTerm_62 (by decide) ?_ ?_
        · refine sa_aload_n C d_X2_readTerm_67 rfl 0 rfl ?_
          refine sa_iload C d_X2_readTerm_68 4 rfl ?_
          refine sa_join1 80 (fun y7 => [(0, .ref (ad this)), (1, .ref (ad a1)), (2, .int a2), (3, .int x3)]) (fun y7 => [.int y7, .ref (ad this)]) (fun y7 => ?_) (fun j80 hj80 => ?_)
          · refine sa_iconst (v := 0) C d_X2_readTerm_80 (by decide) ?_
            refine sa_invV (ci := 2) C (k_X2_add this y7 0) q686 ds_X2_add q119 rfl q685 q9 q683 (gd_X2_add this y7 0) rfl rfl rfl (Nat.le_of_ble_eq_true rfl) (by omega) (by decide) d_X2_readTerm_81 (fun _ => ?_)
            refine sa_iinc C (fun zz => [(3, .int zz), (0, .ref (ad this)), (1, .ref (ad a1)), (2, .int a2)]) d_X2_readTerm_84 3 rfl rfl (by decide) (fun _ => rfl) (fun x8 => ?_)
            refine sa_goto (tgt := 13) C d_X2_readTerm_87 (by decide) ?_
            exact sa_sub [1, 2, 3, 0] rfl (hj13 _)
          refine sa_if_eq (tgt := 78) C d_X2_readTerm_70 (by decide) ?_ ?_
          · refine sa_bipush (v := 8) C d_X2_readTerm_78 (by decide) ?_
            exact sa_sub [0, 1, 2, 3] rfl (hj80 _)
          refine sa_bipush (v := 7) C d_X2_readTerm_73 (by decide) ?_
          refine sa_goto (tgt := 80) C d_X2_readTerm_75 (by decide) ?_
          exact sa_sub [0, 1, 2, 3] rfl (hj80 _)
        refine sa_iconst (v := 0) C d_X2_readTerm_65 (by decide) ?_
        exact sa_zret C d_X2_readTerm_66
      refine sa_if_ne (tgt := 52) C d_X2_readTerm_38 (by decide) ?_ ?_
      · exact sa_sub [1, 2, 3, 4, 0] rfl (hj52)
      refine sa_aload_n C d_X2_readTerm_41 rfl 2 rfl ?_
      refine sa_invV (ci := 7) C (k_X7_sign a1) q506 ds_X7_sign q115 rfl q504 q505 q667 (gd_X7_sign a1) rfl rfl rfl (Nat.le_of_ble_eq_true rfl) (by omega) (by decide) d_X2_readTerm_42 (fun v9 => ?_)
      refine sa_bipush (v := 47) C d_X2_readTerm_45 (by decide) ?_
      refine sa_icmp_eq (tgt := 52) C d_X2_readTerm_47 (by decide) ?_ ?_
      · exact sa_sub [1, 2, 3, 4, 0] rfl (hj52)
      refine sa_iconst (v := 1) C d_X2_readTerm_50 (by decide) ?_
      exact sa_zret C d_X2_readTerm_51
    refine sa_icmp_ne (tgt := 33) C d_X2_readTerm_26 (by decide) ?_ ?_
    · refine sa_iconst (v := 0) C d_X2_readTerm_33 (by decide) ?_
      exact sa_sub [0, 1, 2, 3] rfl (hj34 _)
    refine sa_iconst (v := 1) C d_X2_readTerm_29 (by decide) ?_
    refine sa_goto (tgt := 34) C d_X2_readTerm_30 (by decide) ?_
    exact sa_sub [0, 1, 2, 3] rfl (hj34 _)
  refine sa_iconst (v := 0) C d_X2_readTerm_9 (by decide) ?_
  exact sa_zret C d_X2_readTerm_10
theorem d_X2_readAtom_0 : decode cX2_readAtom 0 = .ok (.aload_n 1, 1) := by decide +kernel
theorem d_X2_readAtom_1 : decode cX2_readAtom 1 = .ok (.invokevirtual 37, 3) := by decide +kernel
theorem d_X2_readAtom_4 : decode cX2_readAtom 4 = .ok (.bipush 91, 2) := by decide +kernel
theorem d_X2_readAtom_6 : decode cX2_readAtom 6 = .ok (.if_icmp .ne 41, 3) := by decide +kernel
theorem d_X2_readAtom_9 : decode cX2_readAtom 9 = .ok (.iload_n 2, 1) := by decide +kernel
theorem d_X2_readAtom_10 : decode cX2_readAtom 10 = .ok (.bipush 6, 2) := by decide +kernel
theorem d_X2_readAtom_12 : decode cX2_readAtom 12 = .ok (.if_icmp .lt 5, 3) := by decide +kernel
theorem d_X2_readAtom_15 : decode cX2_readAtom 15 = .ok (.iconst 0, 1) := by decide +kernel
theorem d_X2_readAtom_16 : decode cX2_readAtom 16 = .ok (.ireturn, 1) := by decide +kernel
theorem d_X2_readAtom_17 : decode cX2_readAtom 17 = .ok (.aload_n 1, 1) := by decide +kernel
theorem d_X2_readAtom_18 : decode cX2_readAtom 18 = .ok (.invokevirtual 67, 3) := by decide +kernel
theorem d_X2_readAtom_21 : decode cX2_readAtom 21 = .ok (.aload_n 0, 1) := by decide +kernel
theorem d_X2_readAtom_22 : decode cX2_readAtom 22 = .ok (.aload_n 1, 1) := by decide +kernel
theorem d_X2_readAtom_23 : decode cX2_readAtom 23 = .ok (.iload_n 2, 1) := by decide +kernel
theorem d_X2_readAtom_24 : decode cX2_readAtom 24 = .ok (.iconst 1, 1) := by decide +kernel
theorem d_X2_readAtom_25 : decode cX2_readAtom 25 = .ok (.iadd, 1) := by decide +kernel
theorem d_X2_readAtom_26 : decode cX2_readAtom 26 = .ok (.invokevirtual 41, 3) := by decide +kernel
theorem d_X2_readAtom_29 : decode cX2_readAtom 29 = .ok (.ifCond .eq 16, 3) := by decide +kernel
theorem d_X2_readAtom_32 : decode cX2_readAtom 32 = .ok (.aload_n 1, 1) := by decide +kernel
theorem d_X2_readAtom_33 : decode cX2_readAtom 33 = .ok (.bipush 93, 2) := by decide +kernel
theorem d_X2_readAtom_35 : decode cX2_readAtom 35 = .ok (.invokevirtual 33, 3) := by decide +kernel
theorem d_X2_readAtom_38 : decode cX2_readAtom 38 = .ok (.ifCond .eq 7, 3) := by decide +kernel
theorem d_X2_readAtom_41 : decode cX2_readAtom 41 = .ok (.iconst 1, 1) := by decide +kernel
theorem d_X2_readAtom_42 : decode cX2_readAtom 42 = .ok (.goto 4, 3) := by decide +kernel
theorem d_X2_readAtom_45 : decode cX2_readAtom 45 = .ok (.iconst 0, 1) := by decide +kernel
theorem d_X2_readAtom_46 : decode cX2_readAtom 46 = .ok (.ireturn, 1) := by decide +kernel
theorem d_X2_readAtom_47 : decode cX2_readAtom 47 = .ok (.ldc 76, 2) := by decide +kernel
theorem d_X2_readAtom_49 : decode cX2_readAtom 49 = .ok (.aload_n 1, 1) := by decide +kernel
theorem d_X2_readAtom_50 : decode cX2_readAtom 50 = .ok (.invokevirtual 37, 3) := by decide +kernel
theorem d_X2_readAtom_53 : decode cX2_readAtom 53 = .ok (.invokevirtual 47, 3) := by decide +kernel
theorem d_X2_readAtom_56 : decode cX2_readAtom 56 = .ok (.istore_n 3, 1) := by decide +kernel
theorem d_X2_readAtom_57 : decode cX2_readAtom 57 = .ok (.iload_n 3, 1) := by decide +kernel
theorem d_X2_readAtom_58 : decode cX2_readAtom 58 = .ok (.ifCond .lt 15, 3) := by decide +kernel
theorem d_X2_readAtom_61 : decode cX2_readAtom 61 = .ok (.aload_n 1, 1) := by decide +kernel
theorem d_X2_readAtom_62 : decode cX2_readAtom 62 = .ok (.invokevirtual 67, 3) := by decide +kernel
theorem d_X2_readAtom_65 : decode cX2_readAtom 65 = .ok (.aload_n 0, 1) := by decide +kernel
theorem d_X2_readAtom_66 : decode cX2_readAtom 66 = .ok (.iconst 1, 1) := by decide +kernel
theorem d_X2_readAtom_67 : decode cX2_readAtom 67 = .ok (.iload_n 3, 1) := by decide +kernel
theorem d_X2_readAtom_68 : decode cX2_readAtom 68 = .ok (.invokevirtual 53, 3) := by decide +kernel
theorem d_X2_readAtom_71 : decode cX2_readAtom 71 = .ok (.iconst 1, 1) := by decide +kernel
theorem d_X2_readAtom_72 : decode cX2_readAtom 72 = .ok (.ireturn, 1) := by decide +kernel
theorem d_X2_readAtom_73 : decode cX2_readAtom 73 = .ok (.aload_n 1, 1) := by decide +kernel
theorem d_X2_readAtom_74 : decode cX2_readAtom 74 = .ok (.iconst 4, 1) := by decide +kernel
theorem d_X2_readAtom_75 : decode cX2_readAtom 75 = .ok (.iconst 0, 1) := by decide +kernel
theorem d_X2_readAtom_76 : decode cX2_readAtom 76 = .ok (.ldc 78, 2) := by decide +kernel
theorem d_X2_readAtom_78 : decode cX2_readAtom 78 = .ok (.invokevirtual 79, 3) := by decide +kernel
theorem d_X2_readAtom_81 : decode cX2_readAtom 81 = .ok (.istore 4, 2) := by decide +kernel
theorem d_X2_readAtom_83 : decode cX2_readAtom 83 = .ok (.aload_n 0, 1) := by decide +kernel
theorem d_X2_readAtom_84 : decode cX2_readAtom 84 = .ok (.iconst 0, 1) := by decide +kernel
theorem d_X2_readAtom_85 : decode cX2_readAtom 85 = .ok (.iconst 0, 1) := by decide +kernel
theorem d_X2_readAtom_86 : decode cX2_readAtom 86 = .ok (.iload 4, 2) := by decide +kernel
theorem d_X2_readAtom_88 : decode cX2_readAtom 88 = .ok (.invokestatic 83, 3) := by decide +kernel
theorem d_X2_readAtom_91 : decode cX2_readAtom 91 = .ok (.invokevirtual 53, 3) := by decide +kernel
theorem d_X2_readAtom_94 : decode cX2_readAtom 94 = .ok (.iload 4, 2) := by decide +kernel
theorem d_X2_readAtom_96 : decode cX2_readAtom 96 = .ok (.ifCond .lt 7, 3) := by decide +kernel
theorem d_X2_readAtom_99 : decode cX2_readAtom 99 = .ok (.iconst 1, 1) := by decide +kernel
theorem d_X2_readAtom_100 : decode cX2_readAtom 100 = .ok (.goto 4, 3) := by decide +kernel
theorem d_X2_readAtom_103 : decode cX2_readAtom 103 = .ok (.iconst 0, 1) := by decide +kernel
theorem d_X2_readAtom_104 : decode cX2_readAtom 104 = .ok (.ireturn, 1) := by decide +kernel
def fb_X2_readAtom (g_X2_readSum : Nat → Nat → Int32 → sa_M Int32) (g_X2_readTerm : Nat → Nat → Int32 → sa_M Int32) (g_X2_readAtom : Nat → Nat → Int32 → sa_M Int32) (this : Nat) (a1 : Nat) (a2 : Int32) : sa_M Int32 :=
sa_gd 2 this (
sa_bnd (f_X7_sign a1) fun v1 =>
if ¬ v1 = 91 then
sa_bnd (f_X7_sign a1) fun v2 =>
sa_bnd (f_J0_indexOf_0f7a4 (1000 + 0) v2) fun v3 =>
if v3 < 0 then
sa_bnd (f_X7_takeNumber a1 4 0 1000000) fun v4 =>
sa_bnd (f_X2_add this 0 (sa_max 0 v4)) fun _ =>
sa_jn1 (fun (y5 : Int32) =>
sa_retZ y5) fun j104 =>
if v4 < 0 then
j104 0
else
j104 1
else
sa_bnd (f_X7_pass a1) fun _ =>
sa_bnd (f_X2_add this 1 v3) fun _ =>
sa_retZ 1
else
if a2 < 6 then
sa_bnd (f_X7_pass a1) fun _ =>
sa_bnd (g_X2_readSum this a1 (a2 + 1)) fun v6 =>
sa_jn1 (fun (y7 : Int32) =>
sa_retZ y7) fun j46 =>
sa_jn0 (j46 0) fun j45 =>
if v6 = 0 then
j45
else
sa_bnd (f_X7_take a1 93) fun v8 =>
if v8 = 0 then
j45
else
j46 1
else
sa_retZ 0)
set_option maxHeartbeats 1000000 in
set_option maxRecDepth 10000 in
theorem b_X2_readAtom {d : Nat} (hd0 : 4 ≤ d) (g_X2_readSum : Nat → Nat → Int32 → sa_M Int32) (g_X2_readTerm : Nat → Nat → Int32 → sa_M Int32) (g_X2_readAtom : Nat → Nat → Int32 → sa_M Int32) (h_X2_readSum : ∀ (this : Nat) (a1 : Nat) (a2 : Int32), sa_Met d yX2_readSum cX2_readSum 5 (some .boolean) (fun ad => [.ref (ad this), .ref (ad a1), .int a2]) sa_eI (g_X2_readSum this a1 a2)) (e_X2_readSum : ∀ (this : Nat) (a1 : Nat) (a2 : Int32) σ r τ, g_X2_readSum this a1 a2 σ = some (r, τ) → sa_sh this = some (.inl 2)) (h_X2_readTerm : ∀ (this : Nat) (a1 : Nat) (a2 : Int32), sa_Met d yX2_readTerm cX2_readTerm 5 (some .boolean) (fun ad => [.ref (ad this), .ref (ad a1), .int a2]) sa_eI (g_X2_readTerm this a1 a2)) (e_X2_readTerm : ∀ (this : Nat) (a1 : Nat) (a2 : Int32) σ r τ, g_X2_readTerm this a1 a2 σ = some (r, τ) → sa_sh this = some (.inl 2)) (h_X2_readAtom : ∀ (this : Nat) (a1 : Nat) (a2 : Int32), sa_Met d yX2_readAtom cX2_readAtom 5 (some .boolean) (fun ad => [.ref (ad this), .ref (ad a1), .int a2]) sa_eI (g_X2_readAtom this a1 a2)) (e_X2_readAtom : ∀ (this : Nat) (a1 : Nat) (a2 : Int32) σ r τ, g_X2_readAtom this a1 a2 σ = some (r, τ) → sa_sh this = some (.inl 2)) {p : Program} {l : Launch} {e : Env} {s : State} {m : MethodId} {args : Array Value} {below : List Frame} {meth : Method} {c : Code} {D : va_G} {ad : Nat → Nat} {cA : FieldType → ClassId} {A : Nat → Prop} (this : Nat) (a1 : Nat) (a2 : Int32) (C : sa_C p s m args meth c cX2_readAtom RX2 "readAtom" 5 (some .boolean) D ad cA A) : sa_Sg p l e s m args below meth c 5 (d + 1) D ad cA A sa_eI 0 [(0, .ref (ad this)), (1, .ref (ad a1)), (2, .int a2)] [] (fb_X2_readAtom g_X2_readSum g_X2_readTerm g_X2_readAtom this a1 a2) := by
  unfold fb_X2_readAtom
  refine sa_gdI ?_
  refine sa_aload_n C d_X2_readAtom_0 rfl 1 rfl ?_
  refine sa_invV (ci := 7) C (k_X7_sign a1) q506 ds_X7_sign q115 rfl q504 q505 q667 (gd_X7_sign a1) rfl rfl rfl (Nat.le_of_ble_eq_true rfl) (by omega) (by decide) d_X2_readAtom_1 (fun v1 => ?_)
  refine sa_bipush (v := 91) C d_X2_readAtom_4 (by decide) ?_
  refine sa_icmp_ne (tgt := 47) C d_X2_readAtom_6 (by decide) ?_ ?_
  · refine sa_ldcS C 3 rfl d_X2_readAtom_47 ?_
    refine sa_aload_n C d_X2_readAtom_49 rfl 1 rfl ?_
    refine sa_invV (ci := 7) C (k_X7_sign a1) q506 ds_X7_sign q115 rfl q504 q505 q667 (gd_X7_sign a1) rfl rfl rfl (Nat.le_of_ble_eq_true rfl) (by omega) (by decide) d_X2_readAtom_50 (fun v2 => ?_)
    refine sa_invK C (k_J0_indexOf_0f7a4 (1000 + 0) v2) q510 ds_J0_indexOf_0f7a4 q118 rfl q508 q509 q682 (gd_J0_indexOf_0f7a4 (1000 + 0) v2) rfl rfl rfl (Nat.le_of_ble_eq_true rfl) (by omega) (by decide) d_X2_readAtom_53 (fun v3 => ?_)
    refine sa_istore_n (lv' := [(3, .int v3), (0, .ref (ad this)), (1, .ref (ad a1)), (2, .int a2)]) C d_X2_readAtom_56 rfl (by decide) rfl ?_
    refine sa_iload_n C d_X2_readAtom_57 rfl 0 rfl ?_
    refine sa_if_lt (tgt := 73) C d_X2_readAtom_58 (by decide) ?_ ?_
    · refine sa_aload_n C d_X2_readAtom_73 rfl 2 rfl ?_
      refine sa_iconst (v := 4) C d_X2_readAtom_74 (by decide) ?_
      refine sa_iconst (v := 0) C d_X2_readAtom_75 (by decide) ?_
      refine sa_ldc (v := 1000000) C d_X2_readAtom_76 q687 ?_
      refine sa_invV (ci := 7) C (k_X7_takeNumber a1 4 0 1000000) q628 ds_X7_takeNumber q115 rfl q626 q627 q688 (gd_X7_takeNumber a1 4 0 1000000) rfl rfl rfl (Nat.le_of_ble_eq_true rfl) (by omega) (by decide) d_X2_readAtom_78 (fun v4 => ?_)
      refine sa_istore (lv' := [(4, .int v4), (3, .int v3), (0, .ref (ad this)), (1, .ref (ad a1)), (2, .int a2)]) C d_X2_readAtom_81 (by decide) rfl ?_
      refine sa_aload_n C d_X2_readAtom_83 rfl 2 rfl ?_
      refine sa_iconst (v := 0) C d_X2_readAtom_84 (by decide) ?_
      refine sa_iconst (v := 0) C d_X2_readAtom_85 (by decide) ?_
      refine sa_iload C d_X2_readAtom_86 0 rfl ?_
      refine sa_mmax C q689 (Nat.le_of_ble_eq_true rfl) (by omega) q527 q130 q528 d_X2_readAtom_88 ?_
      refine sa_invV (ci := 2) C (k_X2_add this 0 (sa_max 0 v4)) q686 ds_X2_add q119 rfl q685 q9 q683 (gd_X2_add this 0 (sa_max 0 v4)) rfl rfl rfl (Nat.le_of_ble_eq_true rfl) (by omega) (by decide) d_X2_readAtom_91 (fun _ => ?_)
      refine sa_iload C d_X2_readAtom_94 0 rfl ?_
      refine sa_join1 104 (fun y5 => []) (fun y5 => [.int y5]) (fun y5 => ?_) (fun j104 hj104 => ?_)
      · exact sa_zret C d_X2_readAtom_104
      refine sa_if_lt (tgt := 103) C d_X2_readAtom_96 (by decide) ?_ ?_
      · refine sa_iconst (v := 0) C d_X2_readAtom_103 (by decide) ?_
        exact sa_sub [] rfl (hj104 _)
      refine sa_iconst (v := 1) C d_X2_readAtom_99 (by decide) ?_
      refine sa_goto (tgt := 104) C d_X2_readAtom_100 (by decide) ?_
      exact sa_sub [] rfl (hj104 _)
    refine sa_aload_n C d_X2_readAtom_61 rfl 2 rfl ?_
    refine sa_invV (ci := 7) C (k_X7_pass a1) q589 ds_X7_pass q115 rfl q587 q588 q680 (gd_X7_pass a1) rfl rfl rfl (Nat.le_of_ble_eq_true rfl) (by omega) (by decide) d_X2_readAtom_62 (fun _ => ?_)
    refine sa_aload_n C d_X2_readAtom_65 rfl 1 rfl ?_
    refine sa_iconst (v := 1) C d_X2_readAtom_66 (by decide) ?_
    refine sa_iload_n C d_X2_readAtom_67 rfl 0 rfl ?_
    refine sa_invV (ci := 2) C (k_X2_add this 1 v3) q686 ds_X2_add q119 rfl q685 q9 q683 (gd_X2_add this 1 v3) rfl rfl rfl (Nat.le_of_ble_eq_true rfl) (by omega) (by decide) d_X2_readAtom_68 (fun _ => ?_)
    refine sa_iconst (v := 1) C d_X2_readAtom_71 (by decide) ?_
    exact sa_zret C d_X2_readAtom_72
  refine sa_iload_n C d_X2_readAtom_9 rfl 2 rfl ?_
  refine sa_bipush (v := 6) C d_X2_readAtom_10 (by decide) ?_
  refine sa_icmp_lt (tgt := 17) C d_X2_readAtom_12 (by decide) ?_ ?_
  · refine sa_aload_n C d_X2_readAtom_17 rfl 1 rfl ?_
    refine sa_invV (ci := 7) C (k_X7_pass a1) q589 ds_X7_pass q115 rfl q587 q588 q680 (gd_X7_pass a1) rfl rfl rfl (Nat.le_of_ble_eq_true rfl) (by omega) (by decide) d_X2_readAtom_18 (fun _ => ?_)
    refine sa_aload_n C d_X2_readAtom_21 rfl 0 rfl ?_
    refine sa_aload_n C d_X2_readAtom_22 rfl 1 rfl ?_
    refine sa_iload_n C d_X2_readAtom_23 rfl 2 rfl ?_
    refine sa_iconst (v := 1) C d_X2_readAtom_24 (by decide) ?_
    refine sa_iadd C d_X2_readAtom_25 ?_
    refine sa_invV (ci := 2) C (h_X2_readSum this a1 (a2 + 1)) q671 ds_X2_readSum q119 rfl q670 q6 q668 (e_X2_readSum this a1 (a2 + 1)) rfl rfl rfl (Nat.le_of_ble_eq_true rfl) (by omega) (by decide) d_X2_readAtom_26 (fun v6 => ?_)
    refine sa_join1 46 (fun y7 => []) (fun y7 => [.int y7]) (fun y7 => ?_) (fun j46 hj46 => ?_)
    · exact sa_zret C d_X2_readAtom_46
    refine sa_join0 45 ([]) ([]) (?_) (fun j45 hj45 => ?_)
    · refine sa_iconst (v := 0) C d_X2_readAtom_45 (by decide) ?_
      exact sa_sub [] rfl (hj46 _)
    refine sa_if_eq (tgt := 45) C d_X2_readAtom_29 (by decide) ?_ ?_
    · exact sa_sub [] rfl (hj45)
    refine sa_aload_n C d_X2_readAtom_32 rfl 1 rfl ?_
    refine sa_bipush (v := 93) C d_X2_readAtom_33 (by decide) ?_
    refine sa_invV (ci := 7) C (k_X7_take a1 93) q656 ds_X7_take q115 rfl q654 q655 q666 (gd_X7_take a1 93) rfl rfl rfl (Nat.le_of_ble_eq_true rfl) (by omega) (by decide) d_X2_readAtom_35 (fun v8 => ?_)
    refine sa_if_eq (tgt := 45) C d_X2_readAtom_38 (by decide) ?_ ?_
    · exact sa_sub [] rfl (hj45)
    refine sa_iconst (v := 1) C d_X2_readAtom_41 (by decide) ?_
    refine sa_goto (tgt := 46) C d_X2_readAtom_42 (by decide) ?_
    exact sa_sub [] rfl (hj46 _)
  refine sa_iconst (v := 0) C d_X2_readAtom_15 (by decide) ?_
  exact sa_zret C d_X2_readAtom_16
def gr_X2_readSum : Nat → (Nat → Nat → Int32 → sa_M Int32) × (Nat → Nat → Int32 → sa_M Int32) × (Nat → Nat → Int32 → sa_M Int32)
  | 0 => ((fun _ _ _ => sa_fail), (fun _ _ _ => sa_fail), (fun _ _ _ => sa_fail))
  | n + 1 => (fb_X2_readSum (gr_X2_readSum n).1 (gr_X2_readSum n).2.1 (gr_X2_readSum n).2.2, fb_X2_readTerm (gr_X2_readSum n).1 (gr_X2_readSum n).2.1 (gr_X2_readSum n).2.2, fb_X2_readAtom (gr_X2_readSum n).1 (gr_X2_readSum n).2.1 (gr_X2_readSum n).2.2)
def f_X2_readSum (n : Nat) (this : Nat) (a1 : Nat) (a2 : Int32) : sa_M Int32 := (gr_X2_readSum n).1 this a1 a2
def f_X2_readTerm (n : Nat) (this : Nat) (a1 : Nat) (a2 : Int32) : sa_M Int32 := (gr_X2_readSum n).2.1 this a1 a2
def f_X2_readAtom (n : Nat) (this : Nat) (a1 : Nat) (a2 : Int32) : sa_M Int32 := (gr_X2_readSum n).2.2 this a1 a2
theorem kg_X2_readSum : ∀ n : Nat, (∀ (this : Nat) (a1 : Nat) (a2 : Int32), sa_Met (4 + n) yX2_readSum cX2_readSum 5 (some .boolean) (fun ad => [.ref (ad this), .ref (ad a1), .int a2]) sa_eI (f_X2_readSum n this a1 a2)) ∧ (∀ (this : Nat) (a1 : Nat) (a2 : Int32) σ r τ, f_X2_readSum n this a1 a2 σ = some (r, τ) → sa_sh this = some (.inl 2)) ∧ (∀ (this : Nat) (a1 : Nat) (a2 : Int32), sa_Met (4 + n) yX2_readTerm cX2_readTerm 5 (some .boolean) (fun ad => [.ref (ad this), .ref (ad a1), .int a2]) sa_eI (f_X2_readTerm n this a1 a2)) ∧ (∀ (this : Nat) (a1 : Nat) (a2 : Int32) σ r τ, f_X2_readTerm n this a1 a2 σ = some (r, τ) → sa_sh this = some (.inl 2)) ∧ (∀ (this : Nat) (a1 : Nat) (a2 : Int32), sa_Met (4 + n) yX2_readAtom cX2_readAtom 5 (some .boolean) (fun ad => [.ref (ad this), .ref (ad a1), .int a2]) sa_eI (f_X2_readAtom n this a1 a2)) ∧ (∀ (this : Nat) (a1 : Nat) (a2 : Int32) σ r τ, f_X2_readAtom n this a1 a2 σ = some (r, τ) → sa_sh this = some (.inl 2)) := by
  intro n
  induction n with
  | zero => exact ⟨(fun _ _ _ => fun _ _ _ _ _ _ _ _ h => by cases h), (fun _ _ _ => fun _ _ _ h => by cases h), (fun _ _ _ => fun _ _ _ _ _ _ _ _ h => by cases h), (fun _ _ _ => fun _ _ _ h => by cases h), (fun _ _ _ => fun _ _ _ _ _ _ _ _ h => by cases h), (fun _ _ _ => fun _ _ _ h => by cases h)⟩
  | succ n ih =>
    obtain ⟨h_X2_readSum, e_X2_readSum, h_X2_readTerm, e_X2_readTerm, h_X2_readAtom, e_X2_readAtom⟩ := ih
    exact ⟨(fun this a1 a2 => sa_mk (by decide) (fun ad => Nat.le_of_ble_eq_true rfl) (fun p l e s m args below meth c D ad cA A C => b_X2_readSum (d := 4 + n) (by omega) _ _ _ h_X2_readSum e_X2_readSum h_X2_readTerm e_X2_readTerm h_X2_readAtom e_X2_readAtom this a1 a2 C)), (fun this a1 a2 => fun σ r τ h => sa_gd_ok h), (fun this a1 a2 => sa_mk (by decide) (fun ad => Nat.le_of_ble_eq_true rfl) (fun p l e s m args below meth c D ad cA A C => b_X2_readTerm (d := 4 + n) (by omega) _ _ _ h_X2_readSum e_X2_readSum h_X2_readTerm e_X2_readTerm h_X2_readAtom e_X2_readAtom this a1 a2 C)), (fun this a1 a2 => fun σ r τ h => sa_gd_ok h), (fun this a1 a2 => sa_mk (by decide) (fun ad => Nat.le_of_ble_eq_true rfl) (fun p l e s m args below meth c D ad cA A C => b_X2_readAtom (d := 4 + n) (by omega) _ _ _ h_X2_readSum e_X2_readSum h_X2_readTerm e_X2_readTerm h_X2_readAtom e_X2_readAtom this a1 a2 C)), (fun this a1 a2 => fun σ r τ h => sa_gd_ok h)⟩
theorem k_X2_readSum (n : Nat) (this : Nat) (a1 : Nat) (a2 : Int32) : sa_Met (4 + n) yX2_readSum cX2_readSum 5 (some .boolean) (fun ad => [.ref (ad this), .ref (ad a1), .int a2]) sa_eI (f_X2_readSum n this a1 a2) := (kg_X2_readSum n).1 this a1 a2
theorem gd_X2_readSum (n : Nat) (this : Nat) (a1 : Nat) (a2 : Int32) (σ : sa_St) (r : Int32) (τ : sa_St) (h : f_X2_readSum n this a1 a2 σ = some (r, τ)) : sa_sh this = some (.inl 2) := (kg_X2_readSum n).2.1 this a1 a2 σ r τ h
theorem k_X2_readTerm (n : Nat) (this : Nat) (a1 : Nat) (a2 : Int32) : sa_Met (4 + n) yX2_readTerm cX2_readTerm 5 (some .boolean) (fun ad => [.ref (ad this), .ref (ad a1), .int a2]) sa_eI (f_X2_readTerm n this a1 a2) := (kg_X2_readSum n).2.2.1 this a1 a2
theorem gd_X2_readTerm (n : Nat) (this : Nat) (a1 : Nat) (a2 : Int32) (σ : sa_St) (r : Int32) (τ : sa_St) (h : f_X2_readTerm n this a1 a2 σ = some (r, τ)) : sa_sh this = some (.inl 2) := (kg_X2_readSum n).2.2.2.1 this a1 a2 σ r τ h
theorem k_X2_readAtom (n : Nat) (this : Nat) (a1 : Nat) (a2 : Int32) : sa_Met (4 + n) yX2_readAtom cX2_readAtom 5 (some .boolean) (fun ad => [.ref (ad this), .ref (ad a1), .int a2]) sa_eI (f_X2_readAtom n this a1 a2) := (kg_X2_readSum n).2.2.2.2.1 this a1 a2
theorem gd_X2_readAtom (n : Nat) (this : Nat) (a1 : Nat) (a2 : Int32) (σ : sa_St) (r : Int32) (τ : sa_St) (h : f_X2_readAtom n this a1 a2 σ = some (r, τ)) : sa_sh this = some (.inl 2) := (kg_X2_readSum n).2.2.2.2.2 this a1 a2 σ r τ h
theorem d_X2_readCondition_0 : decode cX2_readCondition 0 = .ok (.aload_n 0, 1) := by decide +kernel
theorem d_X2_readCondition_1 : decode cX2_readCondition 1 = .ok (.aload_n 1, 1) := by decide +kernel
theorem d_X2_readCondition_2 : decode cX2_readCondition 2 = .ok (.iload_n 2, 1) := by decide +kernel
theorem d_X2_readCondition_3 : decode cX2_readCondition 3 = .ok (.iload_n 3, 1) := by decide +kernel
theorem d_X2_readCondition_4 : decode cX2_readCondition 4 = .ok (.invokevirtual 61, 3) := by decide +kernel
theorem d_X2_readCondition_7 : decode cX2_readCondition 7 = .ok (.ifCond .ne 5, 3) := by decide +kernel
theorem d_X2_readCondition_10 : decode cX2_readCondition 10 = .ok (.iconst 0, 1) := by decide +kernel
theorem d_X2_readCondition_11 : decode cX2_readCondition 11 = .ok (.ireturn, 1) := by decide +kernel
theorem d_X2_readCondition_12 : decode cX2_readCondition 12 = .ok (.iconst 0, 1) := by decide +kernel
theorem d_X2_readCondition_13 : decode cX2_readCondition 13 = .ok (.istore 4, 2) := by decide +kernel
theorem d_X2_readCondition_15 : decode cX2_readCondition 15 = .ok (.iload 4, 2) := by decide +kernel
theorem d_X2_readCondition_17 : decode cX2_readCondition 17 = .ok (.sipush 240, 3) := by decide +kernel
theorem d_X2_readCondition_20 : decode cX2_readCondition 20 = .ok (.if_icmp .ge 37, 3) := by decide +kernel
theorem d_X2_readCondition_23 : decode cX2_readCondition 23 = .ok (.aload_n 1, 1) := by decide +kernel
theorem d_X2_readCondition_24 : decode cX2_readCondition 24 = .ok (.bipush 124, 2) := by decide +kernel
theorem d_X2_readCondition_26 : decode cX2_readCondition 26 = .ok (.invokevirtual 33, 3) := by decide +kernel
theorem d_X2_readCondition_29 : decode cX2_readCondition 29 = .ok (.ifCond .eq 28, 3) := by decide +kernel
theorem d_X2_readCondition_32 : decode cX2_readCondition 32 = .ok (.aload_n 0, 1) := by decide +kernel
theorem d_X2_readCondition_33 : decode cX2_readCondition 33 = .ok (.aload_n 1, 1) := by decide +kernel
theorem d_X2_readCondition_34 : decode cX2_readCondition 34 = .ok (.iload_n 2, 1) := by decide +kernel
theorem d_X2_readCondition_35 : decode cX2_readCondition 35 = .ok (.iconst 0, 1) := by decide +kernel
theorem d_X2_readCondition_36 : decode cX2_readCondition 36 = .ok (.invokevirtual 61, 3) := by decide +kernel
theorem d_X2_readCondition_39 : decode cX2_readCondition 39 = .ok (.ifCond .ne 5, 3) := by decide +kernel
theorem d_X2_readCondition_42 : decode cX2_readCondition 42 = .ok (.iconst 0, 1) := by decide +kernel
theorem d_X2_readCondition_43 : decode cX2_readCondition 43 = .ok (.ireturn, 1) := by decide +kernel
theorem d_X2_readCondition_44 : decode cX2_readCondition 44 = .ok (.aload_n 0, 1) := by decide +kernel
theorem d_X2_readCondition_45 : decode cX2_readCondition 45 = .ok (.bipush 13, 2) := by decide +kernel
theorem d_X2_readCondition_47 : decode cX2_readCondition 47 = .ok (.iconst 0, 1) := by decide +kernel
theorem d_X2_readCondition_48 : decode cX2_readCondition 48 = .ok (.invokevirtual 53, 3) := by decide +kernel
theorem d_X2_readCondition_51 : decode cX2_readCondition 51 = .ok (.iinc 4 1, 3) := by decide +kernel
theorem d_X2_readCondition_54 : decode cX2_readCondition 54 = .ok (.goto (-39), 3) := by decide +kernel
theorem d_X2_readCondition_57 : decode cX2_readCondition 57 = .ok (.iconst 1, 1) := by decide +kernel
theorem d_X2_readCondition_58 : decode cX2_readCondition 58 = .ok (.ireturn, 1) := by decide +kernel
def fb_X2_readCondition (g_X2_readCondition : Nat → Nat → Int32 → Int32 → sa_M Int32) (g_X2_readTruth : Nat → Nat → Int32 → Int32 → sa_M Int32) (g_X2_readUnit : Nat → Nat → Int32 → Int32 → sa_M Int32) (this : Nat) (a1 : Nat) (a2 : Int32) (a3 : Int32) : sa_M Int32 :=
sa_gd 2 this (
sa_bnd (g_X2_readTruth this a1 a2 a3) fun v1 =>
if ¬ v1 = 0 then
sa_let (0 : Int32) fun x2 =>
sa_wh1 (fun j15 (x3 : Int32) =>
sa_jn0 (sa_retZ 1) fun j57 =>
if 240 ≤ x3 then
j57
else
sa_bnd (f_X7_take a1 124) fun v4 =>
if v4 = 0 then
j57
else
sa_bnd (g_X2_readTruth this a1 a2 0) fun v5 =>
if ¬ v5 = 0 then
sa_bnd (f_X2_add this 13 0) fun _ =>
sa_let ((x3 + 1) : Int32) fun x6 =>
j15 x6
else
sa_retZ 0) sa_F x2
else
sa_retZ 0)
set_option maxHeartbeats 1000000 in
set_option maxRecDepth 10000 in
theorem b_X2_readCondition {d : Nat} (hd0 : 65 ≤ d) (g_X2_readCondition : Nat → Nat → Int32 → Int32 → sa_M Int32) (g_X2_readTruth : Nat → Nat → Int32 → Int32 → sa_M Int32) (g_X2_readUnit : Nat → Nat → Int32 → Int32 → sa_M Int32) (h_X2_readCondition : ∀ (this : Nat) (a1 : Nat) (a2 : Int32) (a3 : Int32), sa_Met d yX2_readCondition cX2_readCondition 5 (some .boolean) (fun ad => [.ref (ad this), .ref (ad a1), .int a2, .int a3]) sa_eI (g_X2_readCondition this a1 a2 a3)) (e_X2_readCondition : ∀ (this : Nat) (a1 : Nat) (a2 : Int32) (a3 : Int32) σ r τ, g_X2_readCondition this a1 a2 a3 σ = some (r, τ) → sa_sh this = some (.inl 2)) (h_X2_readTruth : ∀ (this : Nat) (a1 : Nat) (a2 : Int32) (a3 : Int32), sa_Met d yX2_readTruth cX2_readTruth 5 (some .boolean) (fun ad => [.ref (ad this), .ref (ad a1), .int a2, .int a3]) sa_eI (g_X2_readTruth this a1 a2 a3)) (e_X2_readTruth : ∀ (this : Nat) (a1 : Nat) (a2 : Int32) (a3 : Int32) σ r τ, g_X2_readTruth this a1 a2 a3 σ = some (r, τ) → sa_sh this = some (.inl 2)) (h_X2_readUnit : ∀ (this : Nat) (a1 : Nat) (a2 : Int32) (a3 : Int32), sa_Met d yX2_readUnit cX2_readUnit 7 (some .boolean) (fun ad => [.ref (ad this), .ref (ad a1), .int a2, .int a3]) sa_eI (g_X2_readUnit this a1 a2 a3)) (e_X2_readUnit : ∀ (this : Nat) (a1 : Nat) (a2 : Int32) (a3 : Int32) σ r τ, g_X2_readUnit this a1 a2 a3 σ = some (r, τ) → sa_sh this = some (.inl 2)) {p : Program} {l : Launch} {e : Env} {s : State} {m : MethodId} {args : Array Value} {below : List Frame} {meth : Method} {c : Code} {D : va_G} {ad : Nat → Nat} {cA : FieldType → ClassId} {A : Nat → Prop} (this : Nat) (a1 : Nat) (a2 : Int32) (a3 : Int32) (C : sa_C p s m args meth c cX2_readCondition RX2 "readCondition" 5 (some .boolean) D ad cA A) : sa_Sg p l e s m args below meth c 5 (d + 1) D ad cA A sa_eI 0 [(0, .ref (ad this)), (1, .ref (ad a1)), (2, .int a2), (3, .int a3)] [] (fb_X2_readCondition g_X2_readCondition g_X2_readTruth g_X2_readUnit this a1 a2 a3) := by
  unfold fb_X2_readCondition
  refine sa_gdI ?_
  refine sa_aload_n C d_X2_readCondition_0 rfl 0 rfl ?_
  refine sa_aload_n C d_X2_readCondition_1 rfl 1 rfl ?_
  refine sa_iload_n C d_X2_readCondition_2 rfl 2 rfl ?_
  refine sa_iload_n C d_X2_readCondition_3 rfl 3 rfl ?_
  refine sa_invV (ci := 2) C (h_X2_readTruth this a1 a2 a3) q698 ds_X2_readTruth q119 rfl q697 q11 q695 (e_X2_readTruth this a1 a2 a3) rfl rfl rfl (Nat.le_of_ble_eq_true rfl) (by omega) (by decide) d_X2_readCondition_4 (fun v1 => ?_)
  refine sa_if_ne (tgt := 12) C d_X2_readCondition_7 (by decide) ?_ ?_
  · refine sa_iconst (v := 0) C d_X2_readCondition_12 (by decide) ?_
    refine sa_topi (fun x2 => ?_)
    refine sa_istore (lv' := [(4, .int x2), (0, .ref (ad this)), (1, .ref (ad a1)), (2, .int a2), (3, .int a3)]) C d_X2_readCondition_13 (by decide) rfl ?_
    refine sa_sub [1, 2, 3, 0] rfl (sa_loop1 (fun x3 => [(0, .ref (ad this)), (1, .ref (ad a1)), (2, .int a2), (4, .int x3)]) (fun x3 => []) (fun j15 hj15 x3 => ?_) _ _)
    refine sa_iload C d_X2_readCondition_15 3 rfl ?_
    refine sa_sipush (v := 240) C d_X2_readCondition_17 (by decide) ?_
    refine sa_join0 57 ([]) ([]) (?_) (fun j57 hj57 => ?_)
    · refine sa_iconst (v := 1) C d_X2_readCondition_57 (by decide) ?_
      exact sa_zret C d_X2_readCondition_58
    refine sa_icmp_ge (tgt := 57) C d_X2_readCondition_20 (by decide) ?_ ?_
    · exact sa_sub [] rfl (hj57)
    refine sa_aload_n C d_X2_readCondition_23 rfl 1 rfl ?_
    refine sa_bipush (v := 124) C d_X2_readCondition_24 (by decide) ?_
    refine sa_invV (ci := 7) C (k_X7_take a1 124) q656 ds_X7_take q115 rfl q654 q655 q666 (gd_X7_take a1 124) rfl rfl rfl (Nat.le_of_ble_eq_true rfl) (by omega) (by decide) d_X2_readCondition_26 (fun v4 => ?_)
    refine sa_if_eq (tgt := 57) C d_X2_readCondition_29 (by decide) ?_ ?_
    · exact sa_sub [] rfl (hj57)
    refine sa_aload_n C d_X2_readCondition_32 rfl 0 rfl ?_
    refine sa_aload_n C d_X2_readCondition_33 rfl 1 rfl ?_
    refine sa_iload_n C d_X2_readCondition_34 rfl 2 rfl ?_
    refine sa_iconst (v := 0) C d_X2_readCondition_35 (by decide) ?_
    refine sa_invV (ci := 2) C (h_X2_readTruth this a1 a2 0) q698 ds_X2_readTruth q119 rfl q697 q11 q695 (e_X2_readTruth this a1 a2 0) rfl rfl rfl (Nat.le_of_ble_eq_true rfl) (by omega) (by decide) d_X2_readCondition_36 (fun v5 => ?_)
    refine sa_if_ne (tgt := 44) C d_X2_readCondition_39 (by decide) ?_ ?_
    · refine sa_aload_n C d_X2_readCondition_44 rfl 0 rfl ?_
      refine sa_bipush (v := 13) C d_X2_readCondition_45 (by decide) ?_
      refine sa_iconst (v := 0) C d_X2_readCondition_47 (by decide) ?_
      refine sa_invV (ci := 2) C (k_X2_add this 13 0) q686 ds_X2_add q119 rfl q685 q9 q683 (gd_X2_add this 13 0) rfl rfl rfl (Nat.le_of_ble_eq_true rfl) (by omega) (by decide) d_X2_readCondition_48 (fun _ => ?_)
      refine sa_iinc C (fun zz => [(4, .int zz), (0, .ref (ad this)), (1, .ref (ad a1)), (2, .int a2)]) d_X2_readCondition_51 3 rfl rfl (by decide) (fun _ => rfl) (fun x6 => ?_)
      refine sa_goto (tgt := 15) C d_X2_readCondition_54 (by decide) ?_
      exact sa_sub [1, 2, 3, 0] rfl (hj15 _)
    refine sa_iconst (v := 0) C d_X2_readCondition_42 (by decide) ?_
    exact sa_zret C d_X2_readCondition_43
  refine sa_iconst (v := 0) C d_X2_readCondition_10 (by decide) ?_
  exact sa_zret C d_X2_readCondition_11
theorem d_X2_readTruth_0 : decode cX2_readTruth 0 = .ok (.aload_n 0, 1) := by decide +kernel
theorem d_X2_readTruth_1 : decode cX2_readTruth 1 = .ok (.aload_n 1, 1) := by decide +kernel
theorem d_X2_readTruth_2 : decode cX2_readTruth 2 = .ok (.iload_n 2, 1) := by decide +kernel
theorem d_X2_readTruth_3 : decode cX2_readTruth 3 = .ok (.iload_n 3, 1) := by decide +kernel
theorem d_X2_readTruth_4 : decode cX2_readTruth 4 = .ok (.invokevirtual 64, 3) := by decide +kernel
theorem d_X2_readTruth_7 : decode cX2_readTruth 7 = .ok (.ifCond .ne 5, 3) := by decide +kernel
theorem d_X2_readTruth_10 : decode cX2_readTruth 10 = .ok (.iconst 0, 1) := by decide +kernel
theorem d_X2_readTruth_11 : decode cX2_readTruth 11 = .ok (.ireturn, 1) := by decide +kernel
theorem d_X2_readTruth_12 : decode cX2_readTruth 12 = .ok (.iconst 0, 1) := by decide +kernel
theorem d_X2_readTruth_13 : decode cX2_readTruth 13 = .ok (.istore 4, 2) := by decide +kernel
theorem d_X2_readTruth_15 : decode cX2_readTruth 15 = .ok (.iload 4, 2) := by decide +kernel
theorem d_X2_readTruth_17 : decode cX2_readTruth 17 = .ok (.sipush 240, 3) := by decide +kernel
theorem d_X2_readTruth_20 : decode cX2_readTruth 20 = .ok (.if_icmp .ge 37, 3) := by decide +kernel
theorem d_X2_readTruth_23 : decode cX2_readTruth 23 = .ok (.aload_n 1, 1) := by decide +kernel
theorem d_X2_readTruth_24 : decode cX2_readTruth 24 = .ok (.bipush 38, 2) := by decide +kernel
theorem d_X2_readTruth_26 : decode cX2_readTruth 26 = .ok (.invokevirtual 33, 3) := by decide +kernel
theorem d_X2_readTruth_29 : decode cX2_readTruth 29 = .ok (.ifCond .eq 28, 3) := by decide +kernel
theorem d_X2_readTruth_32 : decode cX2_readTruth 32 = .ok (.aload_n 0, 1) := by decide +kernel
theorem d_X2_readTruth_33 : decode cX2_readTruth 33 = .ok (.aload_n 1, 1) := by decide +kernel
theorem d_X2_readTruth_34 : decode cX2_readTruth 34 = .ok (.iload_n 2, 1) := by decide +kernel
theorem d_X2_readTruth_35 : decode cX2_readTruth 35 = .ok (.iconst 0, 1) := by decide +kernel
theorem d_X2_readTruth_36 : decode cX2_readTruth 36 = .ok (.invokevirtual 64, 3) := by decide +kernel
theorem d_X2_readTruth_39 : decode cX2_readTruth 39 = .ok (.ifCond .ne 5, 3) := by decide +kernel
theorem d_X2_readTruth_42 : decode cX2_readTruth 42 = .ok (.iconst 0, 1) := by decide +kernel
theorem d_X2_readTruth_43 : decode cX2_readTruth 43 = .ok (.ireturn, 1) := by decide +kernel
theorem d_X2_readTruth_44 : decode cX2_readTruth 44 = .ok (.aload_n 0, 1) := by decide +kernel
theorem d_X2_readTruth_45 : decode cX2_readTruth 45 = .ok (.bipush 12, 2) := by decide +kernel
theorem d_X2_readTruth_47 : decode cX2_readTruth 47 = .ok (.iconst 0, 1) := by decide +kernel
theorem d_X2_readTruth_48 : decode cX2_readTruth 48 = .ok (.invokevirtual 53, 3) := by decide +kernel
theorem d_X2_readTruth_51 : decode cX2_readTruth 51 = .ok (.iinc 4 1, 3) := by decide +kernel
theorem d_X2_readTruth_54 : decode cX2_readTruth 54 = .ok (.goto (-39), 3) := by decide +kernel
theorem d_X2_readTruth_57 : decode cX2_readTruth 57 = .ok (.iconst 1, 1) := by decide +kernel
theorem d_X2_readTruth_58 : decode cX2_readTruth 58 = .ok (.ireturn, 1) := by decide +kernel
def fb_X2_readTruth (g_X2_readCondition : Nat → Nat → Int32 → Int32 → sa_M Int32) (g_X2_readTruth : Nat → Nat → Int32 → Int32 → sa_M Int32) (g_X2_readUnit : Nat → Nat → Int32 → Int32 → sa_M Int32) (this : Nat) (a1 : Nat) (a2 : Int32) (a3 : Int32) : sa_M Int32 :=
sa_gd 2 this (
sa_bnd (g_X2_readUnit this a1 a2 a3) fun v1 =>
if ¬ v1 = 0 then
sa_let (0 : Int32) fun x2 =>
sa_wh1 (fun j15 (x3 : Int32) =>
sa_jn0 (sa_retZ 1) fun j57 =>
if 240 ≤ x3 then
j57
else
sa_bnd (f_X7_take a1 38) fun v4 =>
if v4 = 0 then
j57
else
sa_bnd (g_X2_readUnit this a1 a2 0) fun v5 =>
if ¬ v5 = 0 then
sa_bnd (f_X2_add this 12 0) fun _ =>
sa_let ((x3 + 1) : Int32) fun x6 =>
j15 x6
else
sa_retZ 0) sa_F x2
else
sa_retZ 0)
set_option maxHeartbeats 1000000 in
set_option maxRecDepth 10000 in
theorem b_X2_readTruth {d : Nat} (hd0 : 65 ≤ d) (g_X2_readCondition : Nat → Nat → Int32 → Int32 → sa_M Int32) (g_X2_readTruth : Nat → Nat → Int32 → Int32 → sa_M Int32) (g_X2_readUnit : Nat → Nat → Int32 → Int32 → sa_M Int32) (h_X2_readCondition : ∀ (this : Nat) (a1 : Nat) (a2 : Int32) (a3 : Int32), sa_Met d yX2_readCondition cX2_readCondition 5 (some .boolean) (fun ad => [.ref (ad this), .ref (ad a1), .int a2, .int a3]) sa_eI (g_X2_readCondition this a1 a2 a3)) (e_X2_readCondition : ∀ (this : Nat) (a1 : Nat) (a2 : Int32) (a3 : Int32) σ r τ, g_X2_readCondition this a1 a2 a3 σ = some (r, τ) → sa_sh this = some (.inl 2)) (h_X2_readTruth : ∀ (this : Nat) (a1 : Nat) (a2 : Int32) (a3 : Int32), sa_Met d yX2_readTruth cX2_readTruth 5 (some .boolean) (fun ad => [.ref (ad this), .ref (ad a1), .int a2, .int a3]) sa_eI (g_X2_readTruth this a1 a2 a3)) (e_X2_readTruth : ∀ (this : Nat) (a1 : Nat) (a2 : Int32) (a3 : Int32) σ r τ, g_X2_readTruth this a1 a2 a3 σ = some (r, τ) → sa_sh this = some (.inl 2)) (h_X2_readUnit : ∀ (this : Nat) (a1 : Nat) (a2 : Int32) (a3 : Int32), sa_Met d yX2_readUnit cX2_readUnit 7 (some .boolean) (fun ad => [.ref (ad this), .ref (ad a1), .int a2, .int a3]) sa_eI (g_X2_readUnit this a1 a2 a3)) (e_X2_readUnit : ∀ (this : Nat) (a1 : Nat) (a2 : Int32) (a3 : Int32) σ r τ, g_X2_readUnit this a1 a2 a3 σ = some (r, τ) → sa_sh this = some (.inl 2)) {p : Program} {l : Launch} {e : Env} {s : State} {m : MethodId} {args : Array Value} {below : List Frame} {meth : Method} {c : Code} {D : va_G} {ad : Nat → Nat} {cA : FieldType → ClassId} {A : Nat → Prop} (this : Nat) (a1 : Nat) (a2 : Int32) (a3 : Int32) (C : sa_C p s m args meth c cX2_readTruth RX2 "readTruth" 5 (some .boolean) D ad cA A) : sa_Sg p l e s m args below meth c 5 (d + 1) D ad cA A sa_eI 0 [(0, .ref (ad this)), (1, .ref (ad a1)), (2, .int a2), (3, .int a3)] [] (fb_X2_readTruth g_X2_readCondition g_X2_readTruth g_X2_readUnit this a1 a2 a3) := by
  unfold fb_X2_readTruth
  refine sa_gdI ?_
  refine sa_aload_n C d_X2_readTruth_0 rfl 0 rfl ?_
  refine sa_aload_n C d_X2_readTruth_1 rfl 1 rfl ?_
  refine sa_iload_n C d_X2_readTruth_2 rfl 2 rfl ?_
  refine sa_iload_n C d_X2_readTruth_3 rfl 3 rfl ?_
  refine sa_invV (ci := 2) C (h_X2_readUnit this a1 a2 a3) q702 ds_X2_readUnit q119 rfl q701 q12 q699 (e_X2_readUnit this a1 a2 a3) rfl rfl rfl (Nat.le_of_ble_eq_true rfl) (by omega) (by decide) d_X2_readTruth_4 (fun v1 => ?_)
  refine sa_if_ne (tgt := 12) C d_X2_readTruth_7 (by decide) ?_ ?_
  · refine sa_iconst (v := 0) C d_X2_readTruth_12 (by decide) ?_
    refine sa_topi (fun x2 => ?_)
    refine sa_istore (lv' := [(4, .int x2), (0, .ref (ad this)), (1, .ref (ad a1)), (2, .int a2), (3, .int a3)]) C d_X2_readTruth_13 (by decide) rfl ?_
    refine sa_sub [1, 2, 3, 0] rfl (sa_loop1 (fun x3 => [(0, .ref (ad this)), (1, .ref (ad a1)), (2, .int a2), (4, .int x3)]) (fun x3 => []) (fun j15 hj15 x3 => ?_) _ _)
    refine sa_iload C d_X2_readTruth_15 3 rfl ?_
    refine sa_sipush (v := 240) C d_X2_readTruth_17 (by decide) ?_
    refine sa_join0 57 ([]) ([]) (?_) (fun j57 hj57 => ?_)
    · refine sa_iconst (v := 1) C d_X2_readTruth_57 (by decide) ?_
      exact sa_zret C d_X2_readTruth_58
    refine sa_icmp_ge (tgt := 57) C d_X2_readTruth_20 (by decide) ?_ ?_
    · exact sa_sub [] rfl (hj57)
    refine sa_aload_n C d_X2_readTruth_23 rfl 1 rfl ?_
    refine sa_bipush (v := 38) C d_X2_readTruth_24 (by decide) ?_
    refine sa_invV (ci := 7) C (k_X7_take a1 38) q656 ds_X7_take q115 rfl q654 q655 q666 (gd_X7_take a1 38) rfl rfl rfl (Nat.le_of_ble_eq_true rfl) (by omega) (by decide) d_X2_readTruth_26 (fun v4 => ?_)
    refine sa_if_eq (tgt := 57) C d_X2_readTruth_29 (by decide) ?_ ?_
    · exact sa_sub [] rfl (hj57)
    refine sa_aload_n C d_X2_readTruth_32 rfl 0 rfl ?_
    refine sa_aload_n C d_X2_readTruth_33 rfl 1 rfl ?_
    refine sa_iload_n C d_X2_readTruth_34 rfl 2 rfl ?_
    refine sa_iconst (v := 0) C d_X2_readTruth_35 (by decide) ?_
    refine sa_invV (ci := 2) C (h_X2_readUnit this a1 a2 0) q702 ds_X2_readUnit q119 rfl q701 q12 q699 (e_X2_readUnit this a1 a2 0) rfl rfl rfl (Nat.le_of_ble_eq_true rfl) (by omega) (by decide) d_X2_readTruth_36 (fun v5 => ?_)
    refine sa_if_ne (tgt := 44) C d_X2_readTruth_39 (by decide) ?_ ?_
    · refine sa_aload_n C d_X2_readTruth_44 rfl 0 rfl ?_
      refine sa_bipush (v := 12) C d_X2_readTruth_45 (by decide) ?_
      refine sa_iconst (v := 0) C d_X2_readTruth_47 (by decide) ?_
      refine sa_invV (ci := 2) C (k_X2_add this 12 0) q686 ds_X2_add q119 rfl q685 q9 q683 (gd_X2_add this 12 0) rfl rfl rfl (Nat.le_of_ble_eq_true rfl) (by omega) (by decide) d_X2_readTruth_48 (fun _ => ?_)
      refine sa_iinc C (fun zz => [(4, .int zz), (0, .ref (ad this)), (1, .ref (ad a1)), (2, .int a2)]) d_X2_readTruth_51 3 rfl rfl (by decide) (fun _ => rfl) (fun x6 => ?_)
      refine sa_goto (tgt := 15) C d_X2_readTruth_54 (by decide) ?_
      exact sa_sub [1, 2, 3, 0] rfl (hj15 _)
    refine sa_iconst (v := 0) C d_X2_readTruth_42 (by decide) ?_
    exact sa_zret C d_X2_readTruth_43
  refine sa_iconst (v := 0) C d_X2_readTruth_10 (by decide) ?_
  exact sa_zret C d_X2_readTruth_11
theorem d_X2_readUnit_0 : decode cX2_readUnit 0 = .ok (.aload_n 1, 1) := by decide +kernel
theorem d_X2_readUnit_1 : decode cX2_readUnit 1 = .ok (.invokevirtual 37, 3) := by decide +kernel
theorem d_X2_readUnit_4 : decode cX2_readUnit 4 = .ok (.istore 4, 2) := by decide +kernel
theorem d_X2_readUnit_6 : decode cX2_readUnit 6 = .ok (.iload_n 3, 1) := by decide +kernel
theorem d_X2_readUnit_7 : decode cX2_readUnit 7 = .ok (.ifCond .ne 83, 3) := by decide +kernel
theorem d_X2_readUnit_10 : decode cX2_readUnit 10 = .ok (.iload 4, 2) := by decide +kernel
theorem d_X2_readUnit_12 : decode cX2_readUnit 12 = .ok (.bipush 33, 2) := by decide +kernel
theorem d_X2_readUnit_14 : decode cX2_readUnit 14 = .ok (.if_icmp .eq 10, 3) := by decide +kernel
theorem d_X2_readUnit_17 : decode cX2_readUnit 17 = .ok (.iload 4, 2) := by decide +kernel
theorem d_X2_readUnit_19 : decode cX2_readUnit 19 = .ok (.bipush 40, 2) := by decide +kernel
theorem d_X2_readUnit_21 : decode cX2_readUnit 21 = .ok (.if_icmp .ne 69, 3) := by decide +kernel
theorem d_X2_readUnit_24 : decode cX2_readUnit 24 = .ok (.iload_n 2, 1) := by decide +kernel
theorem d_X2_readUnit_25 : decode cX2_readUnit 25 = .ok (.bipush 6, 2) := by decide +kernel
theorem d_X2_readUnit_27 : decode cX2_readUnit 27 = .ok (.if_icmp .lt 5, 3) := by decide +kernel
theorem d_X2_readUnit_30 : decode cX2_readUnit 30 = .ok (.iconst 0, 1) := by decide +kernel
theorem d_X2_readUnit_31 : decode cX2_readUnit 31 = .ok (.ireturn, 1) := by decide +kernel
theorem d_X2_readUnit_32 : decode cX2_readUnit 32 = .ok (.aload_n 1, 1) := by decide +kernel
theorem d_X2_readUnit_33 : decode cX2_readUnit 33 = .ok (.invokevirtual 67, 3) := by decide +kernel
theorem d_X2_readUnit_36 : decode cX2_readUnit 36 = .ok (.iload 4, 2) := by decide +kernel
theorem d_X2_readUnit_38 : decode cX2_readUnit 38 = .ok (.bipush 40, 2) := by decide +kernel
theorem d_X2_readUnit_40 : decode cX2_readUnit 40 = .ok (.if_icmp .ne 30, 3) := by decide +kernel
theorem d_X2_readUnit_43 : decode cX2_readUnit 43 = .ok (.aload_n 0, 1) := by decide +kernel
theorem d_X2_readUnit_44 : decode cX2_readUnit 44 = .ok (.aload_n 1, 1) := by decide +kernel
theorem d_X2_readUnit_45 : decode cX2_readUnit 45 = .ok (.iload_n 2, 1) := by decide +kernel
theorem d_X2_readUnit_46 : decode cX2_readUnit 46 = .ok (.iconst 1, 1) := by decide +kernel
theorem d_X2_readUnit_47 : decode cX2_readUnit 47 = .ok (.iadd, 1) := by decide +kernel
theorem d_X2_readUnit_48 : decode cX2_readUnit 48 = .ok (.iconst 0, 1) := by decide +kernel
theorem d_X2_readUnit_49 : decode cX2_readUnit 49 = .ok (.invokevirtual 57, 3) := by decide +kernel
theorem d_X2_readUnit_52 : decode cX2_readUnit 52 = .ok (.ifCond .eq 16, 3) := by decide +kernel
theorem d_X2_readUnit_55 : decode cX2_readUnit 55 = .ok (.aload_n 1, 1) := by decide +kernel
theorem d_X2_readUnit_56 : decode cX2_readUnit 56 = .ok (.bipush 41, 2) := by decide +kernel
theorem d_X2_readUnit_58 : decode cX2_readUnit 58 = .ok (.invokevirtual 33, 3) := by decide +kernel
theorem d_X2_readUnit_61 : decode cX2_readUnit 61 = .ok (.ifCond .eq 7, 3) := by decide +kernel
theorem d_X2_readUnit_64 : decode cX2_readUnit 64 = .ok (.iconst 1, 1) := by decide +kernel
theorem d_X2_readUnit_65 : decode cX2_readUnit 65 = .ok (.goto 4, 3) := by decide +kernel
theorem d_X2_readUnit_68 : decode cX2_readUnit 68 = .ok (.iconst 0, 1) := by decide +kernel
theorem d_X2_readUnit_69 : decode cX2_readUnit 69 = .ok (.ireturn, 1) := by decide +kernel
theorem d_X2_readUnit_70 : decode cX2_readUnit 70 = .ok (.aload_n 0, 1) := by decide +kernel
theorem d_X2_readUnit_71 : decode cX2_readUnit 71 = .ok (.aload_n 1, 1) := by decide +kernel
theorem d_X2_readUnit_72 : decode cX2_readUnit 72 = .ok (.iload_n 2, 1) := by decide +kernel
theorem d_X2_readUnit_73 : decode cX2_readUnit 73 = .ok (.iconst 1, 1) := by decide +kernel
theorem d_X2_readUnit_74 : decode cX2_readUnit 74 = .ok (.iadd, 1) := by decide +kernel
theorem d_X2_readUnit_75 : decode cX2_readUnit 75 = .ok (.iconst 0, 1) := by decide +kernel
theorem d_X2_readUnit_76 : decode cX2_readUnit 76 = .ok (.invokevirtual 64, 3) := by decide +kernel
theorem d_X2_readUnit_79 : decode cX2_readUnit 79 = .ok (.istore 5, 2) := by decide +kernel
theorem d_X2_readUnit_81 : decode cX2_readUnit 81 = .ok (.aload_n 0, 1) := by decide +kernel
theorem d_X2_readUnit_82 : decode cX2_readUnit 82 = .ok (.iconst 2, 1) := by decide +kernel
theorem d_X2_readUnit_83 : decode cX2_readUnit 83 = .ok (.iconst 0, 1) := by decide +kernel
theorem d_X2_readUnit_84 : decode cX2_readUnit 84 = .ok (.invokevirtual 53, 3) := by decide +kernel
theorem d_X2_readUnit_87 : decode cX2_readUnit 87 = .ok (.iload 5, 2) := by decide +kernel
theorem d_X2_readUnit_89 : decode cX2_readUnit 89 = .ok (.ireturn, 1) := by decide +kernel
theorem d_X2_readUnit_90 : decode cX2_readUnit 90 = .ok (.iload_n 3, 1) := by decide +kernel
theorem d_X2_readUnit_91 : decode cX2_readUnit 91 = .ok (.ifCond .ne 14, 3) := by decide +kernel
theorem d_X2_readUnit_94 : decode cX2_readUnit 94 = .ok (.aload_n 0, 1) := by decide +kernel
theorem d_X2_readUnit_95 : decode cX2_readUnit 95 = .ok (.aload_n 1, 1) := by decide +kernel
theorem d_X2_readUnit_96 : decode cX2_readUnit 96 = .ok (.iload_n 2, 1) := by decide +kernel
theorem d_X2_readUnit_97 : decode cX2_readUnit 97 = .ok (.invokevirtual 41, 3) := by decide +kernel
theorem d_X2_readUnit_100 : decode cX2_readUnit 100 = .ok (.ifCond .ne 5, 3) := by decide +kernel
theorem d_X2_readUnit_103 : decode cX2_readUnit 103 = .ok (.iconst 0, 1) := by decide +kernel
theorem d_X2_readUnit_104 : decode cX2_readUnit 104 = .ok (.ireturn, 1) := by decide +kernel
theorem d_X2_readUnit_105 : decode cX2_readUnit 105 = .ok (.ldc 45, 2) := by decide +kernel
theorem d_X2_readUnit_107 : decode cX2_readUnit 107 = .ok (.aload_n 1, 1) := by decide +kernel
theorem d_X2_readUnit_108 : decode cX2_readUnit 108 = .ok (.invokevirtual 37, 3) := by decide +kernel
theorem d_X2_readUnit_111 : decode cX2_readUnit 111 = .ok (.invokevirtual 47, 3) := by decide +kernel
theorem d_X2_readUnit_114 : decode cX2_readUnit 114 = .ok (.istore 5, 2) := by decide +kernel
theorem d_X2_readUnit_116 : decode cX2_readUnit 116 = .ok (.iload 5, 2) := by decide +kernel
theorem d_X2_readUnit_118 : decode cX2_readUnit 118 = .ok (.ifCond .ge 5, 3) := by decide +kernel
theorem d_X2_readUnit_121 : decode cX2_readUnit 121 = .ok (.iconst 0, 1) := by decide +kernel
theorem d_X2_readUnit_122 : decode cX2_readUnit 122 = .ok (.ireturn, 1) := by decide +kernel
theorem d_X2_readUnit_123 : decode cX2_readUnit 123 = .ok (.aload_n 1, 1) := by decide +kernel
theorem d_X2_readUnit_124 : decode cX2_readUnit 124 = .ok (.invokevirtual 67, 3) := by decide +kernel
theorem d_X2_readUnit_127 : decode cX2_readUnit 127 = .ok (.aload_n 0, 1) := by decide +kernel
theorem d_X2_readUnit_128 : decode cX2_readUnit 128 = .ok (.aload_n 1, 1) := by decide +kernel
theorem d_X2_readUnit_129 : decode cX2_readUnit 129 = .ok (.iload_n 2, 1) := by decide +kernel
theorem d_X2_readUnit_130 : decode cX2_readUnit 130 = .ok (.invokevirtual 41, 3) := by decide +kernel
theorem d_X2_readUnit_133 : decode cX2_readUnit 133 = .ok (.istore 6, 2) := by decide +kernel
theorem d_X2_readUnit_135 : decode cX2_readUnit 135 = .ok (.aload_n 0, 1) := by decide +kernel
theorem d_X2_readUnit_136 : decode cX2_readUnit 136 = .ok (.bipush 9, 2) := by decide +kernel
theorem d_X2_readUnit_138 : decode cX2_readUnit 138 = .ok (.iload 5, 2) := by decide +kernel
theorem d_X2_readUnit_140 : decode cX2_readUnit 140 = .ok (.iadd, 1) := by decide +kernel
theorem d_X2_readUnit_141 : decode cX2_readUnit 141 = .ok (.iconst 0, 1) := by decide +kernel
theorem d_X2_readUnit_142 : decode cX2_readUnit 142 = .ok (.invokevirtual 53, 3) := by decide +kernel
theorem d_X2_readUnit_145 : decode cX2_readUnit 145 = .ok (.iload 6, 2) := by decide +kernel
theorem d_X2_readUnit_147 : decode cX2_readUnit 147 = .ok (.ireturn, 1) := by decide +kernel
def fb_X2_readUnit (g_X2_readCondition : Nat → Nat → Int32 → Int32 → sa_M Int32) (g_X2_readTruth : Nat → Nat → Int32 → Int32 → sa_M Int32) (g_X2_readUnit : Nat → Nat → Int32 → Int32 → sa_M Int32) (this : Nat) (a1 : Nat) (a2 : Int32) (a3 : Int32) : sa_M Int32 :=
sa_gd 2 this (
sa_bnd (f_X7_sign a1) fun v1 =>
sa_jn0 (sa_jn0 (sa_bnd (f_X7_sign a1) fun v2 =>
sa_bnd (f_J0_indexOf_0f7a4 (1000 + 3) v2) fun v3 =>
if 0 ≤ v3 then
sa_bnd (f_X7_pass a1) fun _ =>
sa_bnd (f_X2_readSum 60 this a1 a2) fun v4 =>
sa_bnd (f_X2_add this (9 + v3) 0) fun _ =>
sa_retZ v4
else
sa_retZ 0) fun j105 =>
if ¬ a3 = 0 then
j105
else
sa_bnd (f_X2_readSum 60 this a1 a2) fun v5 =>
if ¬ v5 = 0 then
j105
else
sa_retZ 0) fun j90 =>
if ¬ a3 = 0 then
j90
else
sa_jn0 (if a2 < 6 then
sa_bnd (f_X7_pass a1) fun _ =>
if ¬ v1 = 40 then
sa_bnd (g_X2_readUnit this a1 (a2 + 1) 0) fun v6 =>
sa_bnd (f_X2_add this 2 0) fun _ =>
sa_retZ v6
else
sa_bnd (g_X2_readCondition this a1 (a2 + 1) 0) fun v7 =>
sa_jn1 (fun (y8 : Int32) =>
sa_retZ y8) fun j69 =>
sa_jn0 (j69 0) fun j68 =>
if v7 = 0 then
j68
else
sa_bnd (f_X7_take a1 41) fun v9 =>
if v9 = 0 then
j68
else
j69 1
else
sa_retZ 0) fun j24 =>
if v1 = 33 then
j24
else
if ¬ v1 = 40 then
j90
else
j24)
set_option maxHeartbeats 1000000 in
set_option maxRecDepth 10000 in
theorem b_X2_readUnit {d : Nat} (hd0 : 65 ≤ d) (g_X2_readCondition : Nat → Nat → Int32 → Int32 → sa_M Int32) (g_X2_readTruth : Nat → Nat → Int32 → Int32 → sa_M Int32) (g_X2_readUnit : Nat → Nat → Int32 → Int32 → sa_M Int32) (h_X2_readCondition : ∀ (this : Nat) (a1 : Nat) (a2 : Int32) (a3 : Int32), sa_Met d yX2_readCondition cX2_readCondition 5 (some .boolean) (fun ad => [.ref (ad this), .ref (ad a1), .int a2, .int a3]) sa_eI (g_X2_readCondition this a1 a2 a3)) (e_X2_readCondition : ∀ (this : Nat) (a1 : Nat) (a2 : Int32) (a3 : Int32) σ r τ, g_X2_readCondition this a1 a2 a3 σ = some (r, τ) → sa_sh this = some (.inl 2)) (h_X2_readTruth : ∀ (this : Nat) (a1 : Nat) (a2 : Int32) (a3 : Int32), sa_Met d yX2_readTruth cX2_readTruth 5 (some .boolean) (fun ad => [.ref (ad this), .ref (ad a1), .int a2, .int a3]) sa_eI (g_X2_readTruth this a1 a2 a3)) (e_X2_readTruth : ∀ (this : Nat) (a1 : Nat) (a2 : Int32) (a3 : Int32) σ r τ, g_X2_readTruth this a1 a2 a3 σ = some (r, τ) → sa_sh this = some (.inl 2)) (h_X2_readUnit : ∀ (this : Nat) (a1 : Nat) (a2 : Int32) (a3 : Int32), sa_Met d yX2_readUnit cX2_readUnit 7 (some .boolean) (fun ad => [.ref (ad this), .ref (ad a1), .int a2, .int a3]) sa_eI (g_X2_readUnit this a1 a2 a3)) (e_X2_readUnit : ∀ (this : Nat) (a1 : Nat) (a2 : Int32) (a3 : Int32) σ r τ, g_X2_readUnit this a1 a2 a3 σ = some (r, τ) → sa_sh this = some (.inl 2)) {p : Program} {l : Launch} {e : Env} {s : State} {m : MethodId} {args : Array Value} {below : List Frame} {meth : Method} {c : Code} {D : va_G} {ad : Nat → Nat} {cA : FieldType → ClassId} {A : Nat → Prop} (this : Nat) (a1 : Nat) (a2 : Int32) (a3 : Int32) (C : sa_C p s m args meth c cX2_readUnit RX2 "readUnit" 7 (some .boolean) D ad cA A) : sa_Sg p l e s m args below meth c 7 (d + 1) D ad cA A sa_eI 0 [(0, .ref (ad this)), (1, .ref (ad a1)), (2, .int a2), (3, .int a3)] [] (fb_X2_readUnit g_X2_readCondition g_X2_readTruth g_X2_readUnit this a1 a2 a3) := by
  unfold fb_X2_readUnit
  refine sa_gdI ?_
  refine sa_aload_n C d_X2_readUnit_0 rfl 1 rfl ?_
  refine sa_invV (ci := 7) C (k_X7_sign a1) q506 ds_X7_sign q115 rfl q504 q505 q667 (gd_X7_sign a1) rfl rfl rfl (Nat.le_of_ble_eq_true rfl) (by omega) (by decide) d_X2_readUnit_1 (fun v1 => ?_)
  refine sa_istore (lv' := [(4, .int v1), (0, .ref (ad this)), (1, .ref (ad a1)), (2, .int a2), (3, .int a3)]) C d_X2_readUnit_4 (by decide) rfl ?_
  refine sa_iload_n C d_X2_readUnit_6 rfl 4 rfl ?_
  refine sa_join0 90 ([(0, .ref (ad this)), (1, .ref (ad a1)), (2, .int a2), (3, .int a3)]) ([]) (?_) (fun j90 hj90 => ?_)
  · refine sa_iload_n C d_X2_readUnit_90 rfl 3 rfl ?_
    refine sa_join0 105 ([(0, .ref (ad this)), (1, .ref (ad a1)), (2, .int a2)]) ([]) (?_) (fun j105 hj105 => ?_)
    · refine sa_ldcS C 4 rfl d_X2_readUnit_105 ?_
      refine sa_aload_n C d_X2_readUnit_107 rfl 1 rfl ?_
      refine sa_invV (ci := 7) C (k_X7_sign a1) q506 ds_X7_sign q115 rfl q504 q505 q667 (gd_X7_sign a1) rfl rfl rfl (Nat.le_of_ble_eq_true rfl) (by omega) (by decide) d_X2_readUnit_108 (fun v2 => ?_)
      refine sa_invK C (k_J0_indexOf_0f7a4 (1000 + 3) v2) q510 ds_J0_indexOf_0f7a4 q118 rfl q508 q509 q682 (gd_J0_indexOf_0f7a4 (1000 + 3) v2) rfl rfl rfl (Nat.le_of_ble_eq_true rfl) (by omega) (by decide) d_X2_readUnit_111 (fun v3 => ?_)
      refine sa_istore (lv' := [(5, .int v3), (0, .ref (ad this)), (1, .ref (ad a1)), (2, .int a2)]) C d_X2_readUnit_114 (by decide) rfl ?_
      refine sa_iload C d_X2_readUnit_116 0 rfl ?_
      refine sa_if_ge (tgt := 123) C d_X2_readUnit_118 (by decide) ?_ ?_
      · refine sa_aload_n C d_X2_readUnit_123 rfl 2 rfl ?_
        refine sa_invV (ci := 7) C (k_X7_pass a1) q589 ds_X7_pass q115 rfl q587 q588 q680 (gd_X7_pass a1) rfl rfl rfl (Nat.le_of_ble_eq_true rfl) (by omega) (by decide) d_X2_readUnit_124 (fun _ => ?_)
        refine sa_aload_n C d_X2_readUnit_127 rfl 1 rfl ?_
        refine sa_aload_n C d_X2_readUnit_128 rfl 2 rfl ?_
        refine sa_iload_n C d_X2_readUnit_129 rfl 3 rfl ?_
        refine sa_invV (ci := 2) C (k_X2_readSum 60 this a1 a2) q671 ds_X2_readSum q119 rfl q670 q6 q668 (gd_X2_readSum 60 this a1 a2) rfl rfl rfl (Nat.le_of_ble_eq_true rfl) (by omega) (by decide) d_X2_readUnit_130 (fun v4 => ?_)
        refine sa_istore (lv' := [(6, .int v4), (5, .int v3), (0, .ref (ad this)), (1, .ref (ad a1)), (2, .int a2)]) C d_X2_readUnit_133 (by decide) rfl ?_
        refine sa_aload_n C d_X2_readUnit_135 rfl 2 rfl ?_
        refine sa_bipush (v := 9) C d_X2_readUnit_136 (by decide) ?_
        refine sa_iload C d_X2_readUnit_138 1 rfl ?_
        refine sa_iadd C d_X2_readUnit_140 ?_
        refine sa_iconst (v := 0) C d_X2_readUnit_141 (by decide) ?_
        refine sa_invV (ci := 2) C (k_X2_add this (9 + v3) 0) q686 ds_X2_add q119 rfl q685 q9 q683 (gd_X2_add this (9 + v3) 0) rfl rfl rfl (Nat.le_of_ble_eq_true rfl) (by omega) (by decide) d_X2_readUnit_142 (fun _ => ?_)
        refine sa_iload C d_X2_readUnit_145 0 rfl ?_
        exact sa_zret C d_X2_readUnit_147
      refine sa_iconst (v := 0) C d_X2_readUnit_121 (by decide) ?_
      exact sa_zret C d_X2_readUnit_122
    refine sa_if_ne (tgt := 105) C d_X2_readUnit_91 (by decide) ?_ ?_
    · exact sa_sub [0, 1, 2] rfl (hj105)
    refine sa_aload_n C d_X2_readUnit_94 rfl 0 rfl ?_
    refine sa_aload_n C d_X2_readUnit_95 rfl 1 rfl ?_
    refine sa_iload_n C d_X2_readUnit_96 rfl 2 rfl ?_
    refine sa_invV (ci := 2) C (k_X2_readSum 60 this a1 a2) q671 ds_X2_readSum q119 rfl q670 q6 q668 (gd_X2_readSum 60 this a1 a2) rfl rfl rfl (Nat.le_of_ble_eq_true rfl) (by omega) (by decide) d_X2_readUnit_97 (fun v5 => ?_)
    refine sa_if_ne (tgt := 105) C d_X2_readUnit_100 (by decide) ?_ ?_
    · exact sa_sub [0, 1, 2] rfl (hj105)
    refine sa_iconst (v := 0) C d_X2_readUnit_103 (by decide) ?_
    exact sa_zret C d_X2_readUnit_104
  refine sa_if_ne (tgt := 90) C d_X2_readUnit_7 (by decide) ?_ ?_
  · exact sa_sub [1, 2, 3, 4] rfl (hj90)
  refine sa_iload C d_X2_readUnit_10 0 rfl ?_
  refine sa_bipush (v := 33) C d_X2_readUnit_12 (by decide) ?_
  refine sa_join0 24 ([(0, .ref (ad this)), (1, .ref (ad a1)), (2, .int a2), (4, .int v1)]) ([]) (?_) (fun j24 hj24 => ?_)
  · refine sa_iload_n C d_X2_readUnit_24 rfl 2 rfl ?_
    refine sa_bipush (v := 6) C d_X2_readUnit_25 (by decide) ?_
    refine sa_icmp_lt (tgt := 32) C d_X2_readUnit_27 (by decide) ?_ ?_
    · refine sa_aload_n C d_X2_readUnit_32 rfl 1 rfl ?_
      refine sa_invV (ci := 7) C (k_X7_pass a1) q589 ds_X7_pass q115 rfl q587 q588 q680 (gd_X7_pass a1) rfl rfl rfl (Nat.le_of_ble_eq_true rfl) (by omega) (by decide) d_X2_readUnit_33 (fun _ => ?_)
      refine sa_iload C d_X2_readUnit_36 3 rfl ?_
      refine sa_bipush (v := 40) C d_X2_readUnit_38 (by decide) ?_
      refine sa_icmp_ne (tgt := 70) C d_X2_readUnit_40 (by decide) ?_ ?_
      · refine sa_aload_n C d_X2_readUnit_70 rfl 0 rfl ?_
        refine sa_aload_n C d_X2_readUnit_71 rfl 1 rfl ?_
        refine sa_iload_n C d_X2_readUnit_72 rfl 2 rfl ?_
        refine sa_iconst (v := 1) C d_X2_readUnit_73 (by decide) ?_
        refine sa_iadd C d_X2_readUnit_74 ?_
        refine sa_iconst (v := 0) C d_X2_readUnit_75 (by decide) ?_
        refine sa_invV (ci := 2) C (h_X2_readUnit this a1 (a2 + 1) 0) q702 ds_X2_readUnit q119 rfl q701 q12 q699 (e_X2_readUnit this a1 (a2 + 1) 0) rfl rfl rfl (Nat.le_of_ble_eq_true rfl) (by omega) (by decide) d_X2_readUnit_76 (fun v6 => ?_)
        refine sa_istore (lv' := [(5, .int v6), (0, .ref (ad this)), (1, .ref (ad a1)), (2, .int a2), (4, .int v1)]) C d_X2_readUnit_79 (by decide) rfl ?_
        refine sa_aload_n C d_X2_readUnit_81 rfl 1 rfl ?_
        refine sa_iconst (v := 2) C d_X2_readUnit_82 (by decide) ?_
        refine sa_iconst (v := 0) C d_X2_readUnit_83 (by decide) ?_
        refine sa_invV (ci := 2) C (k_X2_add this 2 0) q686 ds_X2_add q119 rfl q685 q9 q683 (gd_X2_add this 2 0) rfl rfl rfl (Nat.le_of_ble_eq_true rfl) (by omega) (by decide) d_X2_readUnit_84 (fun _ => ?_)
        refine sa_iload C d_X2_readUnit_87 0 rfl ?_
        exact sa_zret C d_X2_readUnit_89
      refine sa_aload_n C d_X2_readUnit_43 rfl 0 rfl ?_
      refine sa_aload_n C d_X2_readUnit_44 rfl 1 rfl ?_
      refine sa_iload_n C d_X2_readUnit_45 rfl 2 rfl ?_
      refine sa_iconst (v := 1) C d_X2_readUnit_46 (by decide) ?_
      refine sa_iadd C d_X2_readUnit_47 ?_
      refine sa_iconst (v := 0) C d_X2_readUnit_48 (by decide) ?_
      refine sa_invV (ci := 2) C (h_X2_readCondition this a1 (a2 + 1) 0) q694 ds_X2_readCondition q119 rfl q693 q10 q691 (e_X2_readCondition this a1 (a2 + 1) 0) rfl rfl rfl (Nat.le_of_ble_eq_true rfl) (by omega) (by decide) d_X2_readUnit_49 (fun v7 => ?_)
      refine sa_join1 69 (fun y8 => []) (fun y8 => [.int y8]) (fun y8 => ?_) (fun j69 hj69 => ?_)
      · exact sa_zret C d_X2_readUnit_69
      refine sa_join0 68 ([]) ([]) (?_) (fun j68 hj68 => ?_)
      · refine sa_iconst (v := 0) C d_X2_readUnit_68 (by decide) ?_
        exact sa_sub [] rfl (hj69 _)
      refine sa_if_eq (tgt := 68) C d_X2_readUnit_52 (by decide) ?_ ?_
      · exact sa_sub [] rfl (hj68)
      refine sa_aload_n C d_X2_readUnit_55 rfl 1 rfl ?_
      refine sa_bipush (v := 41) C d_X2_readUnit_56 (by decide) ?_
      refine sa_invV (ci := 7) C (k_X7_take a1 41) q656 ds_X7_take q115 rfl q654 q655 q666 (gd_X7_take a1 41) rfl rfl rfl (Nat.le_of_ble_eq_true rfl) (by omega) (by decide) d_X2_readUnit_58 (fun v9 => ?_)
      refine sa_if_eq (tgt := 68) C d_X2_readUnit_61 (by decide) ?_ ?_
      · exact sa_sub [] rfl (hj68)
      refine sa_iconst (v := 1) C d_X2_readUnit_64 (by decide) ?_
      refine sa_goto (tgt := 69) C d_X2_readUnit_65 (by decide) ?_
      exact sa_sub [] rfl (hj69 _)
    refine sa_iconst (v := 0) C d_X2_readUnit_30 (by decide) ?_
    exact sa_zret C d_X2_readUnit_31
  refine sa_icmp_eq (tgt := 24) C d_X2_readUnit_14 (by decide) ?_ ?_
  · exact sa_sub [1, 2, 3, 0] rfl (hj24)
  refine sa_iload C d_X2_readUnit_17 0 rfl ?_
  refine sa_bipush (v := 40) C d_X2_readUnit_19 (by decide) ?_
  refine sa_icmp_ne (tgt := 90) C d_X2_readUnit_21 (by decide) ?_ ?_
  · exact sa_sub [1, 2, 3, 4] rfl (hj90)
  exact sa_sub [1, 2, 3, 0] rfl (hj24)
def gr_X2_readCondition : Nat → (Nat → Nat → Int32 → Int32 → sa_M Int32) × (Nat → Nat → Int32 → Int32 → sa_M Int32) × (Nat → Nat → Int32 → Int32 → sa_M Int32)
  | 0 => ((fun _ _ _ _ => sa_fail), (fun _ _ _ _ => sa_fail), (fun _ _ _ _ => sa_fail))
  | n + 1 => (fb_X2_readCondition (gr_X2_readCondition n).1 (gr_X2_readCondition n).2.1 (gr_X2_readCondition n).2.2, fb_X2_readTruth (gr_X2_readCondition n).1 (gr_X2_readCondition n).2.1 (gr_X2_readCondition n).2.2, fb_X2_readUnit (gr_X2_readCondition n).1 (gr_X2_readCondition n).2.1 (gr_X2_readCondition n).2.2)
def f_X2_readCondition (n : Nat) (this : Nat) (a1 : Nat) (a2 : Int32) (a3 : Int32) : sa_M Int32 := (gr_X2_readCondition n).1 this a1 a2 a3
def f_X2_readTruth (n : Nat) (this : Nat) (a1 : Nat) (a2 : Int32) (a3 : Int32) : sa_M Int32 := (gr_X2_readCondition n).2.1 this a1 a2 a3
def f_X2_readUnit (n : Nat) (this : Nat) (a1 : Nat) (a2 : Int32) (a3 : Int32) : sa_M Int32 := (gr_X2_readCondition n).2.2 this a1 a2 a3
theorem kg_X2_readCondition : ∀ n : Nat, (∀ (this : Nat) (a1 : Nat) (a2 : Int32) (a3 : Int32), sa_Met (65 + n) yX2_readCondition cX2_readCondition 5 (some .boolean) (fun ad => [.ref (ad this), .ref (ad a1), .int a2, .int a3]) sa_eI (f_X2_readCondition n this a1 a2 a3)) ∧ (∀ (this : Nat) (a1 : Nat) (a2 : Int32) (a3 : Int32) σ r τ, f_X2_readCondition n this a1 a2 a3 σ = some (r, τ) → sa_sh this = some (.inl 2)) ∧ (∀ (this : Nat) (a1 : Nat) (a2 : Int32) (a3 : Int32), sa_Met (65 + n) yX2_readTruth cX2_readTruth 5 (some .boolean) (fun ad => [.ref (ad this), .ref (ad a1), .int a2, .int a3]) sa_eI (f_X2_readTruth n this a1 a2 a3)) ∧ (∀ (this : Nat) (a1 : Nat) (a2 : Int32) (a3 : Int32) σ r τ, f_X2_readTruth n this a1 a2 a3 σ = some (r, τ) → sa_sh this = some (.inl 2)) ∧ (∀ (this : Nat) (a1 : Nat) (a2 : Int32) (a3 : Int32), sa_Met (65 + n) yX2_readUnit cX2_readUnit 7 (some .boolean) (fun ad => [.ref (ad this), .ref (ad a1), .int a2, .int a3]) sa_eI (f_X2_readUnit n this a1 a2 a3)) ∧ (∀ (this : Nat) (a1 : Nat) (a2 : Int32) (a3 : Int32) σ r τ, f_X2_readUnit n this a1 a2 a3 σ = some (r, τ) → sa_sh this = some (.inl 2)) := by
  intro n
  induction n with
  | zero => exact ⟨(fun _ _ _ _ => fun _ _ _ _ _ _ _ _ h => by cases h), (fun _ _ _ _ => fun _ _ _ h => by cases h), (fun _ _ _ _ => fun _ _ _ _ _ _ _ _ h => by cases h), (fun _ _ _ _ => fun _ _ _ h => by cases h), (fun _ _ _ _ => fun _ _ _ _ _ _ _ _ h => by cases h), (fun _ _ _ _ => fun _ _ _ h => by cases h)⟩
  | succ n ih =>
    obtain ⟨h_X2_readCondition, e_X2_readCondition, h_X2_readTruth, e_X2_readTruth, h_X2_readUnit, e_X2_readUnit⟩ := ih
    exact ⟨(fun this a1 a2 a3 => sa_mk (by decide) (fun ad => Nat.le_of_ble_eq_true rfl) (fun p l e s m args below meth c D ad cA A C => b_X2_readCondition (d := 65 + n) (by omega) _ _ _ h_X2_readCondition e_X2_readCondition h_X2_readTruth e_X2_readTruth h_X2_readUnit e_X2_readUnit this a1 a2 a3 C)), (fun this a1 a2 a3 => fun σ r τ h => sa_gd_ok h), (fun this a1 a2 a3 => sa_mk (by decide) (fun ad => Nat.le_of_ble_eq_true rfl) (fun p l e s m args below meth c D ad cA A C => b_X2_readTruth (d := 65 + n) (by omega) _ _ _ h_X2_readCondition e_X2_readCondition h_X2_readTruth e_X2_readTruth h_X2_readUnit e_X2_readUnit this a1 a2 a3 C)), (fun this a1 a2 a3 => fun σ r τ h => sa_gd_ok h), (fun this a1 a2 a3 => sa_mk (by decide) (fun ad => Nat.le_of_ble_eq_true rfl) (fun p l e s m args below meth c D ad cA A C => b_X2_readUnit (d := 65 + n) (by omega) _ _ _ h_X2_readCondition e_X2_readCondition h_X2_readTruth e_X2_readTruth h_X2_readUnit e_X2_readUnit this a1 a2 a3 C)), (fun this a1 a2 a3 => fun σ r τ h => sa_gd_ok h)⟩
theorem k_X2_readCondition (n : Nat) (this : Nat) (a1 : Nat) (a2 : Int32) (a3 : Int32) : sa_Met (65 + n) yX2_readCondition cX2_readCondition 5 (some .boolean) (fun ad => [.ref (ad this), .ref (ad a1), .int a2, .int a3]) sa_eI (f_X2_readCondition n this a1 a2 a3) := (kg_X2_readCondition n).1 this a1 a2 a3
theorem gd_X2_readCondition (n : Nat) (this : Nat) (a1 : Nat) (a2 : Int32) (a3 : Int32) (σ : sa_St) (r : Int32) (τ : sa_St) (h : f_X2_readCondition n this a1 a2 a3 σ = some (r, τ)) : sa_sh this = some (.inl 2) := (kg_X2_readCondition n).2.1 this a1 a2 a3 σ r τ h
theorem k_X2_readTruth (n : Nat) (this : Nat) (a1 : Nat) (a2 : Int32) (a3 : Int32) : sa_Met (65 + n) yX2_readTruth cX2_readTruth 5 (some .boolean) (fun ad => [.ref (ad this), .ref (ad a1), .int a2, .int a3]) sa_eI (f_X2_readTruth n this a1 a2 a3) := (kg_X2_readCondition n).2.2.1 this a1 a2 a3
theorem gd_X2_readTruth (n : Nat) (this : Nat) (a1 : Nat) (a2 : Int32) (a3 : Int32) (σ : sa_St) (r : Int32) (τ : sa_St) (h : f_X2_readTruth n this a1 a2 a3 σ = some (r, τ)) : sa_sh this = some (.inl 2) := (kg_X2_readCondition n).2.2.2.1 this a1 a2 a3 σ r τ h
theorem k_X2_readUnit (n : Nat) (this : Nat) (a1 : Nat) (a2 : Int32) (a3 : Int32) : sa_Met (65 + n) yX2_readUnit cX2_readUnit 7 (some .boolean) (fun ad => [.ref (ad this), .ref (ad a1), .int a2, .int a3]) sa_eI (f_X2_readUnit n this a1 a2 a3) := (kg_X2_readCondition n).2.2.2.2.1 this a1 a2 a3
theorem gd_X2_readUnit (n : Nat) (this : Nat) (a1 : Nat) (a2 : Int32) (a3 : Int32) (σ : sa_St) (r : Int32) (τ : sa_St) (h : f_X2_readUnit n this a1 a2 a3 σ = some (r, τ)) : sa_sh this = some (.inl 2) := (kg_X2_readCondition n).2.2.2.2.2 this a1 a2 a3 σ r τ h
theorem d_X2_readClause_0 : decode cX2_readClause 0 = .ok (.aload_n 1, 1) := by decide +kernel
theorem d_X2_readClause_1 : decode cX2_readClause 1 = .ok (.bipush 121, 2) := by decide +kernel
theorem d_X2_readClause_3 : decode cX2_readClause 3 = .ok (.invokevirtual 33, 3) := by decide +kernel
theorem d_X2_readClause_6 : decode cX2_readClause 6 = .ok (.ifCond .eq 12, 3) := by decide +kernel
theorem d_X2_readClause_9 : decode cX2_readClause 9 = .ok (.aload_n 1, 1) := by decide +kernel
theorem d_X2_readClause_10 : decode cX2_readClause 10 = .ok (.bipush 58, 2) := by decide +kernel
theorem d_X2_readClause_12 : decode cX2_readClause 12 = .ok (.invokevirtual 33, 3) := by decide +kernel
theorem d_X2_readClause_15 : decode cX2_readClause 15 = .ok (.ifCond .ne 5, 3) := by decide +kernel
theorem d_X2_readClause_18 : decode cX2_readClause 18 = .ok (.iconst 0, 1) := by decide +kernel
theorem d_X2_readClause_19 : decode cX2_readClause 19 = .ok (.ireturn, 1) := by decide +kernel
theorem d_X2_readClause_20 : decode cX2_readClause 20 = .ok (.aload_n 1, 1) := by decide +kernel
theorem d_X2_readClause_21 : decode cX2_readClause 21 = .ok (.invokevirtual 37, 3) := by decide +kernel
theorem d_X2_readClause_24 : decode cX2_readClause 24 = .ok (.bipush 33, 2) := by decide +kernel
theorem d_X2_readClause_26 : decode cX2_readClause 26 = .ok (.if_icmp .eq 16, 3) := by decide +kernel
theorem d_X2_readClause_29 : decode cX2_readClause 29 = .ok (.aload_n 1, 1) := by decide +kernel
theorem d_X2_readClause_30 : decode cX2_readClause 30 = .ok (.invokevirtual 37, 3) := by decide +kernel
theorem d_X2_readClause_33 : decode cX2_readClause 33 = .ok (.bipush 40, 2) := by decide +kernel
theorem d_X2_readClause_35 : decode cX2_readClause 35 = .ok (.if_icmp .eq 7, 3) := by decide +kernel
theorem d_X2_readClause_38 : decode cX2_readClause 38 = .ok (.iconst 1, 1) := by decide +kernel
theorem d_X2_readClause_39 : decode cX2_readClause 39 = .ok (.goto 4, 3) := by decide +kernel
theorem d_X2_readClause_42 : decode cX2_readClause 42 = .ok (.iconst 0, 1) := by decide +kernel
theorem d_X2_readClause_43 : decode cX2_readClause 43 = .ok (.istore_n 2, 1) := by decide +kernel
theorem d_X2_readClause_44 : decode cX2_readClause 44 = .ok (.iload_n 2, 1) := by decide +kernel
theorem d_X2_readClause_45 : decode cX2_readClause 45 = .ok (.ifCond .eq 34, 3) := by decide +kernel
theorem d_X2_readClause_48 : decode cX2_readClause 48 = .ok (.aload_n 0, 1) := by decide +kernel
theorem d_X2_readClause_49 : decode cX2_readClause 49 = .ok (.aload_n 1, 1) := by decide +kernel
theorem d_X2_readClause_50 : decode cX2_readClause 50 = .ok (.iconst 0, 1) := by decide +kernel
theorem d_X2_readClause_51 : decode cX2_readClause 51 = .ok (.invokevirtual 41, 3) := by decide +kernel
theorem d_X2_readClause_54 : decode cX2_readClause 54 = .ok (.ifCond .ne 5, 3) := by decide +kernel
theorem d_X2_readClause_57 : decode cX2_readClause 57 = .ok (.iconst 0, 1) := by decide +kernel
theorem d_X2_readClause_58 : decode cX2_readClause 58 = .ok (.ireturn, 1) := by decide +kernel
theorem d_X2_readClause_59 : decode cX2_readClause 59 = .ok (.ldc 45, 2) := by decide +kernel
theorem d_X2_readClause_61 : decode cX2_readClause 61 = .ok (.aload_n 1, 1) := by decide +kernel
theorem d_X2_readClause_62 : decode cX2_readClause 62 = .ok (.invokevirtual 37, 3) := by decide +kernel
theorem d_X2_readClause_65 : decode cX2_readClause 65 = .ok (.invokevirtual 47, 3) := by decide +kernel
theorem d_X2_readClause_68 : decode cX2_readClause 68 = .ok (.ifCond .ge 11, 3) := by decide +kernel
theorem d_X2_readClause_71 : decode cX2_readClause 71 = .ok (.aload_n 0, 1) := by decide +kernel
theorem d_X2_readClause_72 : decode cX2_readClause 72 = .ok (.iconst 4, 1) := by decide +kernel
theorem d_X2_readClause_73 : decode cX2_readClause 73 = .ok (.iconst 0, 1) := by decide +kernel
theorem d_X2_readClause_74 : decode cX2_readClause 74 = .ok (.invokevirtual 53, 3) := by decide +kernel
theorem d_X2_readClause_77 : decode cX2_readClause 77 = .ok (.iconst 1, 1) := by decide +kernel
theorem d_X2_readClause_78 : decode cX2_readClause 78 = .ok (.ireturn, 1) := by decide +kernel
theorem d_X2_readClause_79 : decode cX2_readClause 79 = .ok (.aload_n 0, 1) := by decide +kernel
theorem d_X2_readClause_80 : decode cX2_readClause 80 = .ok (.aload_n 1, 1) := by decide +kernel
theorem d_X2_readClause_81 : decode cX2_readClause 81 = .ok (.iconst 0, 1) := by decide +kernel
theorem d_X2_readClause_82 : decode cX2_readClause 82 = .ok (.iload_n 2, 1) := by decide +kernel
theorem d_X2_readClause_83 : decode cX2_readClause 83 = .ok (.invokevirtual 57, 3) := by decide +kernel
theorem d_X2_readClause_86 : decode cX2_readClause 86 = .ok (.ifCond .eq 12, 3) := by decide +kernel
theorem d_X2_readClause_89 : decode cX2_readClause 89 = .ok (.aload_n 1, 1) := by decide +kernel
theorem d_X2_readClause_90 : decode cX2_readClause 90 = .ok (.bipush 63, 2) := by decide +kernel
theorem d_X2_readClause_92 : decode cX2_readClause 92 = .ok (.invokevirtual 33, 3) := by decide +kernel
theorem d_X2_readClause_95 : decode cX2_readClause 95 = .ok (.ifCond .ne 5, 3) := by decide +kernel
theorem d_X2_readClause_98 : decode cX2_readClause 98 = .ok (.iconst 0, 1) := by decide +kernel
theorem d_X2_readClause_99 : decode cX2_readClause 99 = .ok (.ireturn, 1) := by decide +kernel
theorem d_X2_readClause_100 : decode cX2_readClause 100 = .ok (.aload_n 0, 1) := by decide +kernel
theorem d_X2_readClause_101 : decode cX2_readClause 101 = .ok (.getfield 18, 3) := by decide +kernel
theorem d_X2_readClause_104 : decode cX2_readClause 104 = .ok (.istore_n 3, 1) := by decide +kernel
theorem d_X2_readClause_105 : decode cX2_readClause 105 = .ok (.aload_n 0, 1) := by decide +kernel
theorem d_X2_readClause_106 : decode cX2_readClause 106 = .ok (.iconst 3, 1) := by decide +kernel
theorem d_X2_readClause_107 : decode cX2_readClause 107 = .ok (.iconst 0, 1) := by decide +kernel
theorem d_X2_readClause_108 : decode cX2_readClause 108 = .ok (.invokevirtual 53, 3) := by decide +kernel
theorem d_X2_readClause_111 : decode cX2_readClause 111 = .ok (.aload_n 0, 1) := by decide +kernel
theorem d_X2_readClause_112 : decode cX2_readClause 112 = .ok (.aload_n 1, 1) := by decide +kernel
theorem d_X2_readClause_113 : decode cX2_readClause 113 = .ok (.iconst 0, 1) := by decide +kernel
theorem d_X2_readClause_114 : decode cX2_readClause 114 = .ok (.invokevirtual 41, 3) := by decide +kernel
theorem d_X2_readClause_117 : decode cX2_readClause 117 = .ok (.ifCond .ne 5, 3) := by decide +kernel
theorem d_X2_readClause_120 : decode cX2_readClause 120 = .ok (.iconst 0, 1) := by decide +kernel
theorem d_X2_readClause_121 : decode cX2_readClause 121 = .ok (.ireturn, 1) := by decide +kernel
theorem d_X2_readClause_122 : decode cX2_readClause 122 = .ok (.aload_n 0, 1) := by decide +kernel
theorem d_X2_readClause_123 : decode cX2_readClause 123 = .ok (.iconst 4, 1) := by decide +kernel
theorem d_X2_readClause_124 : decode cX2_readClause 124 = .ok (.iconst 0, 1) := by decide +kernel
theorem d_X2_readClause_125 : decode cX2_readClause 125 = .ok (.invokevirtual 53, 3) := by decide +kernel
theorem d_X2_readClause_128 : decode cX2_readClause 128 = .ok (.iload_n 3, 1) := by decide +kernel
theorem d_X2_readClause_129 : decode cX2_readClause 129 = .ok (.aload_n 0, 1) := by decide +kernel
theorem d_X2_readClause_130 : decode cX2_readClause 130 = .ok (.getfield 9, 3) := by decide +kernel
theorem d_X2_readClause_133 : decode cX2_readClause 133 = .ok (.arraylength, 1) := by decide +kernel
theorem d_X2_readClause_134 : decode cX2_readClause 134 = .ok (.if_icmp .ge 17, 3) := by decide +kernel
theorem d_X2_readClause_137 : decode cX2_readClause 137 = .ok (.aload_n 0, 1) := by decide +kernel
theorem d_X2_readClause_138 : decode cX2_readClause 138 = .ok (.getfield 9, 3) := by decide +kernel
theorem d_X2_readClause_141 : decode cX2_readClause 141 = .ok (.iload_n 3, 1) := by decide +kernel
theorem d_X2_readClause_142 : decode cX2_readClause 142 = .ok (.aload_n 0, 1) := by decide +kernel
theorem d_X2_readClause_143 : decode cX2_readClause 143 = .ok (.getfield 18, 3) := by decide +kernel
theorem d_X2_readClause_146 : decode cX2_readClause 146 = .ok (.iconst 4, 1) := by decide +kernel
theorem d_X2_readClause_147 : decode cX2_readClause 147 = .ok (.ishl, 1) := by decide +kernel
theorem d_X2_readClause_148 : decode cX2_readClause 148 = .ok (.iconst 3, 1) := by decide +kernel
theorem d_X2_readClause_149 : decode cX2_readClause 149 = .ok (.ior, 1) := by decide +kernel
theorem d_X2_readClause_150 : decode cX2_readClause 150 = .ok (.iastore, 1) := by decide +kernel
theorem d_X2_readClause_151 : decode cX2_readClause 151 = .ok (.iconst 1, 1) := by decide +kernel
theorem d_X2_readClause_152 : decode cX2_readClause 152 = .ok (.ireturn, 1) := by decide +kernel
def f_X2_readClause (this : Nat) (a1 : Nat) : sa_M Int32 :=
sa_gd 2 this (
sa_bnd (f_X7_take a1 121) fun v1 =>
sa_jn0 (sa_retZ 0) fun j18 =>
if v1 = 0 then
j18
else
sa_bnd (f_X7_take a1 58) fun v2 =>
if ¬ v2 = 0 then
sa_bnd (f_X7_sign a1) fun v3 =>
sa_jn1 (fun (y4 : Int32) =>
sa_jn0 (sa_bnd (f_X2_readCondition 60 this a1 0 y4) fun v5 =>
sa_jn0 (sa_retZ 0) fun j98 =>
if v5 = 0 then
j98
else
sa_bnd (f_X7_take a1 63) fun v6 =>
if ¬ v6 = 0 then
sa_bnd (sa_rdI 2 this 2) fun v7 =>
sa_bnd (f_X2_add this 3 0) fun _ =>
sa_bnd (f_X2_readSum 60 this a1 0) fun v8 =>
if ¬ v8 = 0 then
sa_bnd (f_X2_add this 4 0) fun _ =>
sa_bnd (sa_rdR 2 this 0) fun v9 =>
sa_bnd (sa_len .int v9) fun v10 =>
sa_jn0 (sa_retZ 1) fun j151 =>
if v10 ≤ v7 then
j151
else
sa_bnd (sa_rdR 2 this 0) fun v11 =>
sa_bnd (sa_rdI 2 this 2) fun v12 =>
sa_bnd (sa_stI v11 v7 ((v12 <<< (4 &&& 31)) ||| 3)) fun _ =>
j151
else
sa_retZ 0
else
j98) fun j79 =>
if y4 = 0 then
j79
else
sa_bnd (f_X2_readSum 60 this a1 0) fun v13 =>
if ¬ v13 = 0 then
sa_bnd (f_X7_sign a1) fun v14 =>
sa_bnd (f_J0_indexOf_0f7a4 (1000 + 3) v14) fun v15 =>
if 0 ≤ v15 then
j79
else
sa_bnd (f_X2_add this 4 0) fun _ =>
sa_retZ 1
else
sa_retZ 0) fun j43 =>
sa_jn0 (j43 0) fun j42 =>
if v3 = 33 then
j42
else
sa_bnd (f_X7_sign a1) fun v16 =>
if v16 = 40 then
j42
else
j43 1
else
j18)
set_option maxHeartbeats 1000000 in
set_option maxRecDepth 10000 in
theorem b_X2_readClause {p : Program} {l : Launch} {e : Env} {s : State} {m : MethodId} {args : Array Value} {below : List Frame} {meth : Method} {c : Code} {D : va_G} {ad : Nat → Nat} {cA : FieldType → ClassId} {A : Nat → Prop} (this : Nat) (a1 : Nat) (C : sa_C p s m args meth c cX2_readClause RX2 "readClause" 4 (some .boolean) D ad cA A) : sa_Sg p l e s m args below meth c 4 127 D ad cA A sa_eI 0 [(0, .ref (ad this)), (1, .ref (ad a1))] [] (f_X2_readClause this a1) := by
  unfold f_X2_readClause
  refine sa_gdI ?_
  refine sa_aload_n C d_X2_readClause_0 rfl 1 rfl ?_
  refine sa_bipush (v := 121) C d_X2_readClause_1 (by decide) ?_
  refine sa_invV (ci := 7) C (k_X7_take a1 121) q656 ds_X7_take q115 rfl q654 q655 q666 (gd_X7_take a1 121) rfl rfl rfl (Nat.le_of_ble_eq_true rfl) (by decide) (by decide) d_X2_readClause_3 (fun v1 => ?_)
  refine sa_join0 18 ([]) ([]) (?_) (fun j18 hj18 => ?_)
  · refine sa_iconst (v := 0) C d_X2_readClause_18 (by decide) ?_
    exact sa_zret C d_X2_readClause_19
  refine sa_if_eq (tgt := 18) C d_X2_readClause_6 (by decide) ?_ ?_
  · exact sa_sub [] rfl (hj18)
  refine sa_aload_n C d_X2_readClause_9 rfl 1 rfl ?_
  refine sa_bipush (v := 58) C d_X2_readClause_10 (by decide) ?_
  refine sa_invV (ci := 7) C (k_X7_take a1 58) q656 ds_X7_take q115 rfl q654 q655 q666 (gd_X7_take a1 58) rfl rfl rfl (Nat.le_of_ble_eq_true rfl) (by decide) (by decide) d_X2_readClause_12 (fun v2 => ?_)
  refine sa_if_ne (tgt := 20) C d_X2_readClause_15 (by decide) ?_ ?_
  · refine sa_aload_n C d_X2_readClause_20 rfl 1 rfl ?_
    refine sa_invV (ci := 7) C (k_X7_sign a1) q506 ds_X7_sign q115 rfl q504 q505 q667 (gd_X7_sign a1) rfl rfl rfl (Nat.le_of_ble_eq_true rfl) (by decide) (by decide) d_X2_readClause_21 (fun v3 => ?_)
    refine sa_bipush (v := 33) C d_X2_readClause_24 (by decide) ?_
    refine sa_join1 43 (fun y4 => [(0, .ref (ad this)), (1, .ref (ad a1))]) (fun y4 => [.int y4]) (fun y4 => ?_) (fun j43 hj43 => ?_)
    · refine sa_istore_n (lv' := [(2, .int y4), (0, .ref (ad this)), (1, .ref (ad a1))]) C d_X2_readClause_43 rfl (by decide) rfl ?_
      refine sa_iload_n C d_X2_readClause_44 rfl 0 rfl ?_
      refine sa_join0 79 ([(0, .ref (ad this)), (1, .ref (ad a1)), (2, .int y4)]) ([]) (?_) (fun j79 hj79 => ?_)
      · refine sa_aload_n C d_X2_readClause_79 rfl 0 rfl ?_
        refine sa_aload_n C d_X2_readClause_80 rfl 1 rfl ?_
        refine sa_iconst (v := 0) C d_X2_readClause_81 (by decide) ?_
        refine sa_iload_n C d_X2_readClause_82 rfl 2 rfl ?_
        refine sa_invV (ci := 2) C (k_X2_readCondition 60 this a1 0 y4) q694 ds_X2_readCondition q119 rfl q693 q10 q691 (gd_X2_readCondition 60 this a1 0 y4) rfl rfl rfl (Nat.le_of_ble_eq_true rfl) (by decide) (by decide) d_X2_readClause_83 (fun v5 => ?_)
        refine sa_join0 98 ([]) ([]) (?_) (fun j98 hj98 => ?_)
        · refine sa_iconst (v := 0) C d_X2_readClause_98 (by decide) ?_
          exact sa_zret C d_X2_readClause_99
        refine sa_if_eq (tgt := 98) C d_X2_readClause_86 (by decide) ?_ ?_
        · exact sa_sub [] rfl (hj98)
        refine sa_aload_n C d_X2_readClause_89 rfl 1 rfl ?_
        refine sa_bipush (v := 63) C d_X2_readClause_90 (by decide) ?_
        refine sa_invV (ci := 7) C (k_X7_take a1 63) q656 ds_X7_take q115 rfl q654 q655 q666 (gd_X7_take a1 63) rfl rfl rfl (Nat.le_of_ble_eq_true rfl) (by decide) (by decide) d_X2_readClause_92 (fun v6 => ?_)
        refine sa_if_ne (tgt := 100) C d_X2_readClause_95 (by decide) ?_ ?_
        · refine sa_aload_n C d_X2_readClause_100 rfl 0 rfl ?_
          refine sa_getI C fd_X2_18 d_X2_readClause_101 (fun v7 => ?_)
          refine sa_istore_n (lv' := [(3, .int v7), (0, .ref (ad this)), (1, .ref (ad a1)), (2, .int y4)]) C d_X2_readClause_104 rfl (by decide) rfl ?_
          refine sa_aload_n C d_X2_readClause_105 rfl 1 rfl ?_
          refine sa_iconst (v := 3) C d_X2_readClause_106 (by decide) ?_
          refine sa_iconst (v := 0) C d_X2_readClause_107 (by decide) ?_
          refine sa_invV (ci := 2) C (k_X2_add this 3 0) q686 ds_X2_add q119 rfl q685 q9 q683 (gd_X2_add this 3 0) rfl rfl rfl (Nat.le_of_ble_eq_true rfl) (by decide) (by decide) d_X2_readClause_108 (fun _ => ?_)
          refine sa_aload_n C d_X2_readClause_111 rfl 1 rfl ?_
          refine sa_aload_n C d_X2_readClause_112 rfl 2 rfl ?_
          refine sa_iconst (v := 0) C d_X2_readClause_113 (by decide) ?_
          refine sa_invV (ci := 2) C (k_X2_readSum 60 this a1 0) q671 ds_X2_readSum q119 rfl q670 q6 q668 (gd_X2_readSum 60 this a1 0) rfl rfl rfl (Nat.le_of_ble_eq_true rfl) (by decide) (by decide) d_X2_readClause_114 (fun v8 => ?_)
          refine sa_if_ne (tgt := 122) C d_X2_readClause_117 (by decide) ?_ ?_
          · refine sa_aload_n C d_X2_readClause_122 rfl 1 rfl ?_
            refine sa_iconst (v := 4) C d_X2_readClause_123 (by decide) ?_
            refine sa_iconst (v := 0) C d_X2_readClause_124 (by decide) ?_
            refine sa_invV (ci := 2) C (k_X2_add this 4 0) q686 ds_X2_add q119 rfl q685 q9 q683 (gd_X2_add this 4 0) rfl rfl rfl (Nat.le_of_ble_eq_true rfl) (by decide) (by decide) d_X2_readClause_125 (fun _ => ?_)
            refine sa_iload_n C d_X2_readClause_128 rfl 0 rfl ?_
            refine sa_aload_n C d_X2_readClause_129 rfl 1 rfl ?_
            refine sa_getR C fd_X2_9 rfl d_X2_readClause_130 (fun v9 => ?_)
            refine sa_alenI C d_X2_readClause_133 (fun v10 => ?_)
            refine sa_join0 151 ([]) ([]) (?_) (fun j151 hj151 => ?_)
            · refine sa_iconst (v := 1) C d_X2_readClause_151 (by decide) ?_
              exact sa_zret C d_X2_readClause_152
            refine sa_icmp_ge (tgt := 151) C d_X2_readClause_134 (by decide) ?_ ?_
            · exact sa_sub [] rfl (hj151)
            refine sa_aload_n C d_X2_readClause_137 rfl 1 rfl ?_
            refine sa_getR C fd_X2_9 rfl d_X2_readClause_138 (fun v11 => ?_)
            refine sa_iload_n C d_X2_readClause_141 rfl 0 rfl ?_
            refine sa_aload_n C d_X2_readClause_142 rfl 1 rfl ?_
            refine sa_getI C fd_X2_18 d_X2_readClause_143 (fun v12 => ?_)
            refine sa_iconst (v := 4) C d_X2_readClause_146 (by decide) ?_
            refine sa_ishl C d_X2_readClause_147 ?_
            refine sa_iconst (v := 3) C d_X2_readClause_148 (by decide) ?_
            refine sa_ior C d_X2_readClause_149 ?_
            refine sa_iast C d_X2_readClause_150 ?_
            exact sa_sub [] rfl (hj151)
          refine sa_iconst (v := 0) C d_X2_readClause_120 (by decide) ?_
          exact sa_zret C d_X2_readClause_121
        exact sa_sub [] rfl (hj98)
      refine sa_if_eq (tgt := 79) C d_X2_readClause_45 (by decide) ?_ ?_
      · exact sa_sub [1, 2, 0] rfl (hj79)
      refine sa_aload_n C d_X2_readClause_48 rfl 1 rfl ?_
      refine sa_aload_n C d_X2_readClause_49 rfl 2 rfl ?_
      refine sa_iconst (v := 0) C d_X2_readClause_50 (by decide) ?_
      refine sa_invV (ci := 2) C (k_X2_readSum 60 this a1 0) q671 ds_X2_readSum q119 rfl q670 q6 q668 (gd_X2_readSum 60 this a1 0) rfl rfl rfl (Nat.le_of_ble_eq_true rfl) (by decide) (by decide) d_X2_readClause_51 (fun v13 => ?_)
      refine sa_if_ne (tgt := 59) C d_X2_readClause_54 (by decide) ?_ ?_
      · refine sa_ldcS C 4 rfl d_X2_readClause_59 ?_
        refine sa_aload_n C d_X2_readClause_61 rfl 2 rfl ?_
        refine sa_invV (ci := 7) C (k_X7_sign a1) q506 ds_X7_sign q115 rfl q504 q505 q667 (gd_X7_sign a1) rfl rfl rfl (Nat.le_of_ble_eq_true rfl) (by decide) (by decide) d_X2_readClause_62 (fun v14 => ?_)
        refine sa_invK C (k_J0_indexOf_0f7a4 (1000 + 3) v14) q510 ds_J0_indexOf_0f7a4 q118 rfl q508 q509 q682 (gd_J0_indexOf_0f7a4 (1000 + 3) v14) rfl rfl rfl (Nat.le_of_ble_eq_true rfl) (by decide) (by decide) d_X2_readClause_65 (fun v15 => ?_)
        refine sa_if_ge (tgt := 79) C d_X2_readClause_68 (by decide) ?_ ?_
        · exact sa_sub [1, 2, 0] rfl (hj79)
        refine sa_aload_n C d_X2_readClause_71 rfl 1 rfl ?_
        refine sa_iconst (v := 4) C d_X2_readClause_72 (by decide) ?_
        refine sa_iconst (v := 0) C d_X2_readClause_73 (by decide) ?_
        refine sa_invV (ci := 2) C (k_X2_add this 4 0) q686 ds_X2_add q119 rfl q685 q9 q683 (gd_X2_add this 4 0) rfl rfl rfl (Nat.le_of_ble_eq_true rfl) (by decide) (by decide) d_X2_readClause_74 (fun _ => ?_)
        refine sa_iconst (v := 1) C d_X2_readClause_77 (by decide) ?_
        exact sa_zret C d_X2_readClause_78
      refine sa_iconst (v := 0) C d_X2_readClause_57 (by decide) ?_
      exact sa_zret C d_X2_readClause_58
    refine sa_join0 42 ([(0, .ref (ad this)), (1, .ref (ad a1))]) ([]) (?_) (fun j42 hj42 => ?_)
    · refine sa_iconst (v := 0) C d_X2_readClause_42 (by decide) ?_
      exact sa_sub [0, 1] rfl (hj43 _)
    refine sa_icmp_eq (tgt := 42) C d_X2_readClause_26 (by decide) ?_ ?_
    · exact sa_sub [0, 1] rfl (hj42)
    refine sa_aload_n C d_X2_readClause_29 rfl 1 rfl ?_
    refine sa_invV (ci := 7) C (k_X7_sign a1) q506 ds_X7_sign q115 rfl q504 q505 q667 (gd_X7_sign a1) rfl rfl rfl (Nat.le_of_ble_eq_true rfl) (by decide) (by decide) d_X2_readClause_30 (fun v16 => ?_)
    refine sa_bipush (v := 40) C d_X2_readClause_33 (by decide) ?_
    refine sa_icmp_eq (tgt := 42) C d_X2_readClause_35 (by decide) ?_ ?_
    · exact sa_sub [0, 1] rfl (hj42)
    refine sa_iconst (v := 1) C d_X2_readClause_38 (by decide) ?_
    refine sa_goto (tgt := 43) C d_X2_readClause_39 (by decide) ?_
    exact sa_sub [0, 1] rfl (hj43 _)
  exact sa_sub [] rfl (hj18)
theorem k_X2_readClause (this : Nat) (a1 : Nat) : sa_Met 127 yX2_readClause cX2_readClause 4 (some .boolean) (fun ad => [.ref (ad this), .ref (ad a1)]) sa_eI (f_X2_readClause this a1) := sa_mk (by decide) (fun ad => Nat.le_of_ble_eq_true rfl) (fun p l e s m args below meth c D ad cA A C => b_X2_readClause this a1 C)
theorem gd_X2_readClause (this : Nat) (a1 : Nat) (σ : sa_St) (r : Int32) (τ : sa_St) (h : f_X2_readClause this a1 σ = some (r, τ)) : sa_sh this = some (.inl 2) := sa_gd_ok h
theorem d_X2_readFrom_0 : decode cX2_readFrom 0 = .ok (.aload_n 0, 1) := by decide +kernel
theorem d_X2_readFrom_1 : decode cX2_readFrom 1 = .ok (.iconst 0, 1) := by decide +kernel
theorem d_X2_readFrom_2 : decode cX2_readFrom 2 = .ok (.putfield 18, 3) := by decide +kernel
theorem d_X2_readFrom_5 : decode cX2_readFrom 5 = .ok (.aload_n 1, 1) := by decide +kernel
theorem d_X2_readFrom_6 : decode cX2_readFrom 6 = .ok (.invokevirtual 22, 3) := by decide +kernel
theorem d_X2_readFrom_9 : decode cX2_readFrom 9 = .ok (.iconst 0, 1) := by decide +kernel
theorem d_X2_readFrom_10 : decode cX2_readFrom 10 = .ok (.istore_n 2, 1) := by decide +kernel
theorem d_X2_readFrom_11 : decode cX2_readFrom 11 = .ok (.iload_n 2, 1) := by decide +kernel
theorem d_X2_readFrom_12 : decode cX2_readFrom 12 = .ok (.sipush 240, 3) := by decide +kernel
theorem d_X2_readFrom_15 : decode cX2_readFrom 15 = .ok (.if_icmp .ge 39, 3) := by decide +kernel
theorem d_X2_readFrom_18 : decode cX2_readFrom 18 = .ok (.aload_n 0, 1) := by decide +kernel
theorem d_X2_readFrom_19 : decode cX2_readFrom 19 = .ok (.aload_n 1, 1) := by decide +kernel
theorem d_X2_readFrom_20 : decode cX2_readFrom 20 = .ok (.invokevirtual 25, 3) := by decide +kernel
theorem d_X2_readFrom_23 : decode cX2_readFrom 23 = .ok (.ifCond .ne 5, 3) := by decide +kernel
theorem d_X2_readFrom_26 : decode cX2_readFrom 26 = .ok (.iconst 0, 1) := by decide +kernel
theorem d_X2_readFrom_27 : decode cX2_readFrom 27 = .ok (.ireturn, 1) := by decide +kernel
theorem d_X2_readFrom_28 : decode cX2_readFrom 28 = .ok (.aload_n 1, 1) := by decide +kernel
theorem d_X2_readFrom_29 : decode cX2_readFrom 29 = .ok (.invokevirtual 29, 3) := by decide +kernel
theorem d_X2_readFrom_32 : decode cX2_readFrom 32 = .ok (.ifCond .eq 5, 3) := by decide +kernel
theorem d_X2_readFrom_35 : decode cX2_readFrom 35 = .ok (.iconst 1, 1) := by decide +kernel
theorem d_X2_readFrom_36 : decode cX2_readFrom 36 = .ok (.ireturn, 1) := by decide +kernel
theorem d_X2_readFrom_37 : decode cX2_readFrom 37 = .ok (.aload_n 1, 1) := by decide +kernel
theorem d_X2_readFrom_38 : decode cX2_readFrom 38 = .ok (.bipush 59, 2) := by decide +kernel
theorem d_X2_readFrom_40 : decode cX2_readFrom 40 = .ok (.invokevirtual 33, 3) := by decide +kernel
theorem d_X2_readFrom_43 : decode cX2_readFrom 43 = .ok (.ifCond .ne 5, 3) := by decide +kernel
theorem d_X2_readFrom_46 : decode cX2_readFrom 46 = .ok (.iconst 0, 1) := by decide +kernel
theorem d_X2_readFrom_47 : decode cX2_readFrom 47 = .ok (.ireturn, 1) := by decide +kernel
theorem d_X2_readFrom_48 : decode cX2_readFrom 48 = .ok (.iinc 2 1, 3) := by decide +kernel
theorem d_X2_readFrom_51 : decode cX2_readFrom 51 = .ok (.goto (-40), 3) := by decide +kernel
theorem d_X2_readFrom_54 : decode cX2_readFrom 54 = .ok (.iconst 0, 1) := by decide +kernel
theorem d_X2_readFrom_55 : decode cX2_readFrom 55 = .ok (.ireturn, 1) := by decide +kernel
def f_X2_readFrom (this : Nat) (a1 : Nat) : sa_M Int32 :=
sa_gd 2 this (
sa_bnd (sa_wrI 2 this 2 0) fun _ =>
sa_bnd (f_X7_rewind a1) fun _ =>
sa_let (0 : Int32) fun x1 =>
sa_wh1 (fun j11 (x2 : Int32) =>
if 240 ≤ x2 then
sa_retZ 0
else
sa_bnd (f_X2_readClause this a1) fun v3 =>
if ¬ v3 = 0 then
sa_bnd (f_X7_isEnded a1) fun v4 =>
if v4 = 0 then
sa_bnd (f_X7_take a1 59) fun v5 =>
if ¬ v5 = 0 then
sa_let ((x2 + 1) : Int32) fun x6 =>
j11 x6
else
sa_retZ 0
else
sa_retZ 1
else
sa_retZ 0) sa_F x1)
set_option maxHeartbeats 1000000 in
set_option maxRecDepth 10000 in
theorem b_X2_readFrom {p : Program} {l : Launch} {e : Env} {s : State} {m : MethodId} {args : Array Value} {below : List Frame} {meth : Method} {c : Code} {D : va_G} {ad : Nat → Nat} {cA : FieldType → ClassId} {A : Nat → Prop} (this : Nat) (a1 : Nat) (C : sa_C p s m args meth c cX2_readFrom RX2 "readFrom" 3 (some .boolean) D ad cA A) : sa_Sg p l e s m args below meth c 3 128 D ad cA A sa_eI 0 [(0, .ref (ad this)), (1, .ref (ad a1))] [] (f_X2_readFrom this a1) := by
  unfold f_X2_readFrom
  refine sa_gdI ?_
  refine sa_aload_n C d_X2_readFrom_0 rfl 0 rfl ?_
  refine sa_iconst (v := 0) C d_X2_readFrom_1 (by decide) ?_
  refine sa_putI C fd_X2_18 d_X2_readFrom_2 ?_
  refine sa_aload_n C d_X2_readFrom_5 rfl 1 rfl ?_
  refine sa_invV (ci := 7) C (k_X7_rewind a1) q493 ds_X7_rewind q115 rfl q491 q492 q661 (gd_X7_rewind a1) rfl rfl rfl (Nat.le_of_ble_eq_true rfl) (by decide) (by decide) d_X2_readFrom_6 (fun _ => ?_)
  refine sa_iconst (v := 0) C d_X2_readFrom_9 (by decide) ?_
  refine sa_topi (fun x1 => ?_)
  refine sa_istore_n (lv' := [(2, .int x1), (0, .ref (ad this)), (1, .ref (ad a1))]) C d_X2_readFrom_10 rfl (by decide) rfl ?_
  refine sa_sub [1, 2, 0] rfl (sa_loop1 (fun x2 => [(0, .ref (ad this)), (1, .ref (ad a1)), (2, .int x2)]) (fun x2 => []) (fun j11 hj11 x2 => ?_) _ _)
  refine sa_iload_n C d_X2_readFrom_11 rfl 2 rfl ?_
  refine sa_sipush (v := 240) C d_X2_readFrom_12 (by decide) ?_
  refine sa_icmp_ge (tgt := 54) C d_X2_readFrom_15 (by decide) ?_ ?_
  · refine sa_iconst (v := 0) C d_X2_readFrom_54 (by decide) ?_
    exact sa_zret C d_X2_readFrom_55
  refine sa_aload_n C d_X2_readFrom_18 rfl 0 rfl ?_
  refine sa_aload_n C d_X2_readFrom_19 rfl 1 rfl ?_
  refine sa_invV (ci := 2) C (k_X2_readClause this a1) q665 ds_X2_readClause q119 rfl q664 q5 q662 (gd_X2_readClause this a1) rfl rfl rfl (Nat.le_of_ble_eq_true rfl) (by decide) (by decide) d_X2_readFrom_20 (fun v3 => ?_)
  refine sa_if_ne (tgt := 28) C d_X2_readFrom_23 (by decide) ?_ ?_
  · refine sa_aload_n C d_X2_readFrom_28 rfl 1 rfl ?_
    refine sa_invV (ci := 7) C (k_X7_isEnded a1) q636 ds_X7_isEnded q115 rfl q634 q635 q703 (gd_X7_isEnded a1) rfl rfl rfl (Nat.le_of_ble_eq_true rfl) (by decide) (by decide) d_X2_readFrom_29 (fun v4 => ?_)
    refine sa_if_eq (tgt := 37) C d_X2_readFrom_32 (by decide) ?_ ?_
    · refine sa_aload_n C d_X2_readFrom_37 rfl 1 rfl ?_
      refine sa_bipush (v := 59) C d_X2_readFrom_38 (by decide) ?_
      refine sa_invV (ci := 7) C (k_X7_take a1 59) q656 ds_X7_take q115 rfl q654 q655 q666 (gd_X7_take a1 59) rfl rfl rfl (Nat.le_of_ble_eq_true rfl) (by decide) (by decide) d_X2_readFrom_40 (fun v5 => ?_)
      refine sa_if_ne (tgt := 48) C d_X2_readFrom_43 (by decide) ?_ ?_
      · refine sa_iinc C (fun zz => [(2, .int zz), (0, .ref (ad this)), (1, .ref (ad a1))]) d_X2_readFrom_48 2 rfl rfl (by decide) (fun _ => rfl) (fun x6 => ?_)
        refine sa_goto (tgt := 11) C d_X2_readFrom_51 (by decide) ?_
        exact sa_sub [1, 2, 0] rfl (hj11 _)
      refine sa_iconst (v := 0) C d_X2_readFrom_46 (by decide) ?_
      exact sa_zret C d_X2_readFrom_47
    refine sa_iconst (v := 1) C d_X2_readFrom_35 (by decide) ?_
    exact sa_zret C d_X2_readFrom_36
  refine sa_iconst (v := 0) C d_X2_readFrom_26 (by decide) ?_
  exact sa_zret C d_X2_readFrom_27
theorem k_X2_readFrom (this : Nat) (a1 : Nat) : sa_Met 128 yX2_readFrom cX2_readFrom 3 (some .boolean) (fun ad => [.ref (ad this), .ref (ad a1)]) sa_eI (f_X2_readFrom this a1) := sa_mk (by decide) (fun ad => Nat.le_of_ble_eq_true rfl) (fun p l e s m args below meth c D ad cA A C => b_X2_readFrom this a1 C)
theorem gd_X2_readFrom (this : Nat) (a1 : Nat) (σ : sa_St) (r : Int32) (τ : sa_St) (h : f_X2_readFrom this a1 σ = some (r, τ)) : sa_sh this = some (.inl 2) := sa_gd_ok h
