theorem q144 : Cond.methodLink RX11 1 Lib.objectInit ∈ sa_T := sa_at 144 (by decide +kernel) rfl
theorem q145 : Cond.instanceMethod Lib.objectInit ∈ sa_T := sa_at 145 (by decide +kernel) rfl
theorem q146 : Cond.code Lib.objectInit ⟨#[0xb1]⟩ 1 none ∈ sa_T := sa_at 146 (by decide +kernel) rfl
theorem q147 : Cond.classLink RX11 7 RX7 ∈ sa_T := sa_at 147 (by decide +kernel) rfl
theorem q150 : Cond.instanceMethod yX7_init ∈ sa_T := sa_at 150 (by decide +kernel) rfl
theorem q151 : Cond.code yX7_init cX7_init 1 none ∈ sa_T := sa_at 151 (by decide +kernel) rfl
theorem q152 : Cond.methodLink RX7 3 Lib.objectInit ∈ sa_T := sa_at 152 (by decide +kernel) rfl
theorem q165 : Cond.arrayClass .int ∈ sa_T := sa_at 165 (by decide +kernel) rfl
theorem q166 : Cond.classLink RX11 16 RX1 ∈ sa_T := sa_at 166 (by decide +kernel) rfl
theorem q169 : Cond.instanceMethod yX1_init ∈ sa_T := sa_at 169 (by decide +kernel) rfl
theorem q170 : Cond.code yX1_init cX1_init 1 none ∈ sa_T := sa_at 170 (by decide +kernel) rfl
theorem q171 : Cond.methodLink RX1 3 Lib.objectInit ∈ sa_T := sa_at 171 (by decide +kernel) rfl
theorem q191 : Cond.classLink RX11 26 RX3 ∈ sa_T := sa_at 191 (by decide +kernel) rfl
theorem q193 : Cond.methodLink RX11 28 yX3_init ∈ sa_T := sa_at 193 (by decide +kernel) rfl
theorem q194 : Cond.instanceMethod yX3_init ∈ sa_T := sa_at 194 (by decide +kernel) rfl
theorem q195 : Cond.code yX3_init cX3_init 2 none ∈ sa_T := sa_at 195 (by decide +kernel) rfl
theorem q196 : Cond.methodLink RX3 3 Lib.objectInit ∈ sa_T := sa_at 196 (by decide +kernel) rfl
theorem q197 : Cond.classLink RX3 9 RX2 ∈ sa_T := sa_at 197 (by decide +kernel) rfl
theorem q200 : Cond.methodLink RX3 19 yJ0_length_8abf5 ∈ sa_T := sa_at 200 (by decide +kernel) rfl
theorem q212 : Cond.instanceMethod yX2_init ∈ sa_T := sa_at 212 (by decide +kernel) rfl
theorem q213 : Cond.code yX2_init cX2_init 1 none ∈ sa_T := sa_at 213 (by decide +kernel) rfl
theorem q214 : Cond.methodLink RX2 1 Lib.objectInit ∈ sa_T := sa_at 214 (by decide +kernel) rfl
theorem q225 : Cond.arrayClass .byte ∈ sa_T := sa_at 225 (by decide +kernel) rfl
theorem q242 : Cond.classLink RX11 33 RX4 ∈ sa_T := sa_at 242 (by decide +kernel) rfl
theorem q246 : Cond.instanceMethod yX4_init ∈ sa_T := sa_at 246 (by decide +kernel) rfl
theorem q247 : Cond.code yX4_init cX4_init 1 none ∈ sa_T := sa_at 247 (by decide +kernel) rfl
theorem q248 : Cond.methodLink RX4 3 Lib.objectInit ∈ sa_T := sa_at 248 (by decide +kernel) rfl
theorem q257 : Cond.classLink RX11 40 RX0 ∈ sa_T := sa_at 257 (by decide +kernel) rfl
theorem q260 : Cond.instanceMethod yX0_init ∈ sa_T := sa_at 260 (by decide +kernel) rfl
theorem q261 : Cond.code yX0_init cX0_init 1 none ∈ sa_T := sa_at 261 (by decide +kernel) rfl
theorem q262 : Cond.methodLink RX0 5 Lib.objectInit ∈ sa_T := sa_at 262 (by decide +kernel) rfl
theorem q275 : Cond.classLink RX11 50 RX5 ∈ sa_T := sa_at 275 (by decide +kernel) rfl
theorem q277 : Cond.methodLink RX11 52 yX5_init ∈ sa_T := sa_at 277 (by decide +kernel) rfl
theorem q278 : Cond.instanceMethod yX5_init ∈ sa_T := sa_at 278 (by decide +kernel) rfl
theorem q279 : Cond.code yX5_init cX5_init 2 none ∈ sa_T := sa_at 279 (by decide +kernel) rfl
theorem q280 : Cond.methodLink RX5 5 Lib.objectInit ∈ sa_T := sa_at 280 (by decide +kernel) rfl
theorem q281 : Cond.classLink RX5 11 RX0 ∈ sa_T := sa_at 281 (by decide +kernel) rfl
theorem q301 : Cond.classLink RX11 57 RX6 ∈ sa_T := sa_at 301 (by decide +kernel) rfl
theorem q303 : Cond.methodLink RX11 59 yX6_init ∈ sa_T := sa_at 303 (by decide +kernel) rfl
theorem q304 : Cond.instanceMethod yX6_init ∈ sa_T := sa_at 304 (by decide +kernel) rfl
theorem q305 : Cond.code yX6_init cX6_init 1 none ∈ sa_T := sa_at 305 (by decide +kernel) rfl
theorem q306 : Cond.methodLink RX6 3 Lib.objectInit ∈ sa_T := sa_at 306 (by decide +kernel) rfl
theorem q318 : Cond.classLink RX11 64 RX9 ∈ sa_T := sa_at 318 (by decide +kernel) rfl
theorem q320 : Cond.methodLink RX11 66 yX9_init ∈ sa_T := sa_at 320 (by decide +kernel) rfl
theorem q321 : Cond.instanceMethod yX9_init ∈ sa_T := sa_at 321 (by decide +kernel) rfl
theorem q322 : Cond.code yX9_init cX9_init 3 none ∈ sa_T := sa_at 322 (by decide +kernel) rfl
theorem q323 : Cond.methodLink RX9 3 Lib.objectInit ∈ sa_T := sa_at 323 (by decide +kernel) rfl
theorem q324 : Cond.classLink RX9 21 "[[J" ∈ sa_T := sa_at 324 (by decide +kernel) rfl
theorem q382 : Cond.arrayClass .long ∈ sa_T := sa_at 382 (by decide +kernel) rfl
theorem q383 : Cond.classLink RX11 73 RX8 ∈ sa_T := sa_at 383 (by decide +kernel) rfl
theorem q386 : Cond.instanceMethod yX8_init ∈ sa_T := sa_at 386 (by decide +kernel) rfl
theorem q387 : Cond.code yX8_init cX8_init 1 none ∈ sa_T := sa_at 387 (by decide +kernel) rfl
theorem q388 : Cond.methodLink RX8 3 Lib.objectInit ∈ sa_T := sa_at 388 (by decide +kernel) rfl
theorem q409 : Cond.classLink RX11 80 RX10 ∈ sa_T := sa_at 409 (by decide +kernel) rfl
theorem q412 : Cond.instanceMethod yX10_init ∈ sa_T := sa_at 412 (by decide +kernel) rfl
theorem q413 : Cond.code yX10_init cX10_init 1 none ∈ sa_T := sa_at 413 (by decide +kernel) rfl
theorem q414 : Cond.methodLink RX10 3 Lib.objectInit ∈ sa_T := sa_at 414 (by decide +kernel) rfl
theorem q1384 : Cond.methodLink RX12 3 Lib.objectInit ∈ sa_T := sa_at 1384 (by decide +kernel) rfl
theorem q1610 : Cond.arrayClass .boolean ∈ sa_T := sa_at 1610 (by decide +kernel) rfl
theorem fc_X0_11 : sa_Fc RX0 11 0 0 (.array .int) := ⟨TX0, 3, tyX0, rfl, by decide, rfl, inX0, tyX0_ok, nmX0, sa_at 263 (by decide +kernel) rfl, rfl, rfl, rfl⟩
theorem fc_X10_11 : sa_Fc RX10 11 10 0 (.array .int) := ⟨TX10, 2, tyX10, rfl, by decide, rfl, inX10, tyX10_ok, nmX10, sa_at 415 (by decide +kernel) rfl, rfl, rfl, rfl⟩
theorem fc_X10_15 : sa_Fc RX10 15 10 1 (.array .int) := ⟨TX10, 2, tyX10, rfl, by decide, rfl, inX10, tyX10_ok, nmX10, sa_at 416 (by decide +kernel) rfl, rfl, rfl, rfl⟩
theorem fc_X11_10 : sa_Fc RX11 10 11 0 (.object "SaltArmy$Tape") := ⟨TX11, 13, tyX11, rfl, by decide, rfl, inX11, tyX11_ok, nmX11, sa_at 422 (by decide +kernel) rfl, rfl, rfl, rfl⟩
theorem fc_X11_19 : sa_Fc RX11 19 11 1 (.object "SaltArmy$Land") := ⟨TX11, 13, tyX11, rfl, by decide, rfl, inX11, tyX11_ok, nmX11, sa_at 423 (by decide +kernel) rfl, rfl, rfl, rfl⟩
theorem fc_X11_23 : sa_Fc RX11 23 11 2 (.object "SaltArmy$Land") := ⟨TX11, 13, tyX11, rfl, by decide, rfl, inX11, tyX11_ok, nmX11, sa_at 424 (by decide +kernel) rfl, rfl, rfl, rfl⟩
theorem fc_X11_29 : sa_Fc RX11 29 11 3 (.object "SaltArmy$Laws") := ⟨TX11, 13, tyX11, rfl, by decide, rfl, inX11, tyX11_ok, nmX11, sa_at 425 (by decide +kernel) rfl, rfl, rfl, rfl⟩
theorem fc_X11_35 : sa_Fc RX11 35 11 4 (.array (.object "SaltArmy$Orders")) := ⟨TX11, 13, tyX11, rfl, by decide, rfl, inX11, tyX11_ok, nmX11, sa_at 426 (by decide +kernel) rfl, rfl, rfl, rfl⟩
theorem fc_X11_43 : sa_Fc RX11 43 11 6 (.object "SaltArmy$Camp") := ⟨TX11, 13, tyX11, rfl, by decide, rfl, inX11, tyX11_ok, nmX11, sa_at 428 (by decide +kernel) rfl, rfl, rfl, rfl⟩
theorem fc_X11_47 : sa_Fc RX11 47 11 7 (.object "SaltArmy$Camp") := ⟨TX11, 13, tyX11, rfl, by decide, rfl, inX11, tyX11_ok, nmX11, sa_at 429 (by decide +kernel) rfl, rfl, rfl, rfl⟩
theorem fc_X11_53 : sa_Fc RX11 53 11 8 (.object "SaltArmy$Past") := ⟨TX11, 13, tyX11, rfl, by decide, rfl, inX11, tyX11_ok, nmX11, sa_at 430 (by decide +kernel) rfl, rfl, rfl, rfl⟩
theorem fc_X11_60 : sa_Fc RX11 60 11 9 (.object "SaltArmy$Sky") := ⟨TX11, 13, tyX11, rfl, by decide, rfl, inX11, tyX11_ok, nmX11, sa_at 431 (by decide +kernel) rfl, rfl, rfl, rfl⟩
theorem fc_X11_69 : sa_Fc RX11 69 11 10 (.object "SaltArmy$Travel") := ⟨TX11, 13, tyX11, rfl, by decide, rfl, inX11, tyX11_ok, nmX11, sa_at 432 (by decide +kernel) rfl, rfl, rfl, rfl⟩
theorem fc_X11_76 : sa_Fc RX11 76 11 11 (.object "SaltArmy$Traces") := ⟨TX11, 13, tyX11, rfl, by decide, rfl, inX11, tyX11_ok, nmX11, sa_at 433 (by decide +kernel) rfl, rfl, rfl, rfl⟩
theorem fc_X11_83 : sa_Fc RX11 83 11 12 (.object "SaltArmy$Watch") := ⟨TX11, 13, tyX11, rfl, by decide, rfl, inX11, tyX11_ok, nmX11, sa_at 434 (by decide +kernel) rfl, rfl, rfl, rfl⟩
theorem fc_X12_100 : sa_Fc RX12 100 12 51 (.array .int) := ⟨TX12, 74, tyX12, rfl, by decide, rfl, inX12, tyX12_ok, nmX12, sa_at 1438 (by decide +kernel) rfl, rfl, rfl, rfl⟩
theorem fc_X12_103 : sa_Fc RX12 103 12 52 (.array .int) := ⟨TX12, 74, tyX12, rfl, by decide, rfl, inX12, tyX12_ok, nmX12, sa_at 1439 (by decide +kernel) rfl, rfl, rfl, rfl⟩
theorem fc_X12_106 : sa_Fc RX12 106 12 62 (.array .int) := ⟨TX12, 74, tyX12, rfl, by decide, rfl, inX12, tyX12_ok, nmX12, sa_at 1449 (by decide +kernel) rfl, rfl, rfl, rfl⟩
theorem fc_X12_109 : sa_Fc RX12 109 12 66 (.array .int) := ⟨TX12, 74, tyX12, rfl, by decide, rfl, inX12, tyX12_ok, nmX12, sa_at 1453 (by decide +kernel) rfl, rfl, rfl, rfl⟩
theorem fc_X12_112 : sa_Fc RX12 112 12 67 (.array .int) := ⟨TX12, 74, tyX12, rfl, by decide, rfl, inX12, tyX12_ok, nmX12, sa_at 1454 (by decide +kernel) rfl, rfl, rfl, rfl⟩
theorem fc_X12_115 : sa_Fc RX12 115 12 68 (.array .int) := ⟨TX12, 74, tyX12, rfl, by decide, rfl, inX12, tyX12_ok, nmX12, sa_at 1455 (by decide +kernel) rfl, rfl, rfl, rfl⟩
theorem fc_X12_118 : sa_Fc RX12 118 12 70 (.array .int) := ⟨TX12, 74, tyX12, rfl, by decide, rfl, inX12, tyX12_ok, nmX12, sa_at 1457 (by decide +kernel) rfl, rfl, rfl, rfl⟩
theorem fc_X12_121 : sa_Fc RX12 121 12 71 (.array .int) := ⟨TX12, 74, tyX12, rfl, by decide, rfl, inX12, tyX12_ok, nmX12, sa_at 1458 (by decide +kernel) rfl, rfl, rfl, rfl⟩
theorem fc_X12_124 : sa_Fc RX12 124 12 72 (.array .int) := ⟨TX12, 74, tyX12, rfl, by decide, rfl, inX12, tyX12_ok, nmX12, sa_at 1459 (by decide +kernel) rfl, rfl, rfl, rfl⟩
theorem fc_X12_13 : sa_Fc RX12 13 12 2 (.array .byte) := ⟨TX12, 74, tyX12, rfl, by decide, rfl, inX12, tyX12_ok, nmX12, sa_at 1389 (by decide +kernel) rfl, rfl, rfl, rfl⟩
theorem fc_X12_16 : sa_Fc RX12 16 12 3 (.array .int) := ⟨TX12, 74, tyX12, rfl, by decide, rfl, inX12, tyX12_ok, nmX12, sa_at 1390 (by decide +kernel) rfl, rfl, rfl, rfl⟩
theorem fc_X12_20 : sa_Fc RX12 20 12 4 (.array .int) := ⟨TX12, 74, tyX12, rfl, by decide, rfl, inX12, tyX12_ok, nmX12, sa_at 1391 (by decide +kernel) rfl, rfl, rfl, rfl⟩
theorem fc_X12_23 : sa_Fc RX12 23 12 5 (.array .byte) := ⟨TX12, 74, tyX12, rfl, by decide, rfl, inX12, tyX12_ok, nmX12, sa_at 1392 (by decide +kernel) rfl, rfl, rfl, rfl⟩
theorem fc_X12_28 : sa_Fc RX12 28 12 15 (.object "java/lang/String") := ⟨TX12, 74, tyX12, rfl, by decide, rfl, inX12, tyX12_ok, nmX12, sa_at 1402 (by decide +kernel) rfl, rfl, rfl, rfl⟩
theorem fc_X12_34 : sa_Fc RX12 34 12 16 (.object "java/lang/String") := ⟨TX12, 74, tyX12, rfl, by decide, rfl, inX12, tyX12_ok, nmX12, sa_at 1403 (by decide +kernel) rfl, rfl, rfl, rfl⟩
theorem fc_X12_37 : sa_Fc RX12 37 12 18 (.array .int) := ⟨TX12, 74, tyX12, rfl, by decide, rfl, inX12, tyX12_ok, nmX12, sa_at 1405 (by decide +kernel) rfl, rfl, rfl, rfl⟩
theorem fc_X12_40 : sa_Fc RX12 40 12 19 (.array .int) := ⟨TX12, 74, tyX12, rfl, by decide, rfl, inX12, tyX12_ok, nmX12, sa_at 1406 (by decide +kernel) rfl, rfl, rfl, rfl⟩
theorem fc_X12_43 : sa_Fc RX12 43 12 20 (.array .int) := ⟨TX12, 74, tyX12, rfl, by decide, rfl, inX12, tyX12_ok, nmX12, sa_at 1407 (by decide +kernel) rfl, rfl, rfl, rfl⟩
theorem fc_X12_46 : sa_Fc RX12 46 12 21 (.array .int) := ⟨TX12, 74, tyX12, rfl, by decide, rfl, inX12, tyX12_ok, nmX12, sa_at 1408 (by decide +kernel) rfl, rfl, rfl, rfl⟩
theorem fc_X12_49 : sa_Fc RX12 49 12 22 (.array .int) := ⟨TX12, 74, tyX12, rfl, by decide, rfl, inX12, tyX12_ok, nmX12, sa_at 1409 (by decide +kernel) rfl, rfl, rfl, rfl⟩
theorem fc_X12_52 : sa_Fc RX12 52 12 23 (.array .int) := ⟨TX12, 74, tyX12, rfl, by decide, rfl, inX12, tyX12_ok, nmX12, sa_at 1410 (by decide +kernel) rfl, rfl, rfl, rfl⟩
theorem fc_X12_55 : sa_Fc RX12 55 12 24 (.array .int) := ⟨TX12, 74, tyX12, rfl, by decide, rfl, inX12, tyX12_ok, nmX12, sa_at 1411 (by decide +kernel) rfl, rfl, rfl, rfl⟩
theorem fc_X12_58 : sa_Fc RX12 58 12 32 (.array .int) := ⟨TX12, 74, tyX12, rfl, by decide, rfl, inX12, tyX12_ok, nmX12, sa_at 1419 (by decide +kernel) rfl, rfl, rfl, rfl⟩
theorem fc_X12_61 : sa_Fc RX12 61 12 33 (.array .int) := ⟨TX12, 74, tyX12, rfl, by decide, rfl, inX12, tyX12_ok, nmX12, sa_at 1420 (by decide +kernel) rfl, rfl, rfl, rfl⟩
theorem fc_X12_64 : sa_Fc RX12 64 12 35 (.array .int) := ⟨TX12, 74, tyX12, rfl, by decide, rfl, inX12, tyX12_ok, nmX12, sa_at 1422 (by decide +kernel) rfl, rfl, rfl, rfl⟩
theorem fc_X12_67 : sa_Fc RX12 67 12 36 (.array .int) := ⟨TX12, 74, tyX12, rfl, by decide, rfl, inX12, tyX12_ok, nmX12, sa_at 1423 (by decide +kernel) rfl, rfl, rfl, rfl⟩
theorem fc_X12_70 : sa_Fc RX12 70 12 37 .int := ⟨TX12, 74, tyX12, rfl, by decide, rfl, inX12, tyX12_ok, nmX12, sa_at 1424 (by decide +kernel) rfl, rfl, rfl, rfl⟩
theorem fc_X12_74 : sa_Fc RX12 74 12 38 (.array .long) := ⟨TX12, 74, tyX12, rfl, by decide, rfl, inX12, tyX12_ok, nmX12, sa_at 1425 (by decide +kernel) rfl, rfl, rfl, rfl⟩
theorem fc_X12_78 : sa_Fc RX12 78 12 39 (.array .int) := ⟨TX12, 74, tyX12, rfl, by decide, rfl, inX12, tyX12_ok, nmX12, sa_at 1426 (by decide +kernel) rfl, rfl, rfl, rfl⟩
theorem fc_X12_81 : sa_Fc RX12 81 12 42 (.array .int) := ⟨TX12, 74, tyX12, rfl, by decide, rfl, inX12, tyX12_ok, nmX12, sa_at 1429 (by decide +kernel) rfl, rfl, rfl, rfl⟩
theorem fc_X12_84 : sa_Fc RX12 84 12 45 (.array .int) := ⟨TX12, 74, tyX12, rfl, by decide, rfl, inX12, tyX12_ok, nmX12, sa_at 1432 (by decide +kernel) rfl, rfl, rfl, rfl⟩
theorem fc_X12_87 : sa_Fc RX12 87 12 46 (.array .int) := ⟨TX12, 74, tyX12, rfl, by decide, rfl, inX12, tyX12_ok, nmX12, sa_at 1433 (by decide +kernel) rfl, rfl, rfl, rfl⟩
theorem fc_X12_9 : sa_Fc RX12 9 12 1 (.array .byte) := ⟨TX12, 74, tyX12, rfl, by decide, rfl, inX12, tyX12_ok, nmX12, sa_at 1388 (by decide +kernel) rfl, rfl, rfl, rfl⟩
theorem fc_X12_90 : sa_Fc RX12 90 12 47 (.array .boolean) := ⟨TX12, 74, tyX12, rfl, by decide, rfl, inX12, tyX12_ok, nmX12, sa_at 1434 (by decide +kernel) rfl, rfl, rfl, rfl⟩
theorem fc_X12_94 : sa_Fc RX12 94 12 49 (.array .long) := ⟨TX12, 74, tyX12, rfl, by decide, rfl, inX12, tyX12_ok, nmX12, sa_at 1436 (by decide +kernel) rfl, rfl, rfl, rfl⟩
theorem fc_X12_97 : sa_Fc RX12 97 12 50 (.array .long) := ⟨TX12, 74, tyX12, rfl, by decide, rfl, inX12, tyX12_ok, nmX12, sa_at 1437 (by decide +kernel) rfl, rfl, rfl, rfl⟩
theorem fc_X1_11 : sa_Fc RX1 11 1 0 (.array .int) := ⟨TX1, 5, tyX1, rfl, by decide, rfl, inX1, tyX1_ok, nmX1, sa_at 172 (by decide +kernel) rfl, rfl, rfl, rfl⟩
theorem fc_X1_15 : sa_Fc RX1 15 1 1 (.array .int) := ⟨TX1, 5, tyX1, rfl, by decide, rfl, inX1, tyX1_ok, nmX1, sa_at 176 (by decide +kernel) rfl, rfl, rfl, rfl⟩
theorem fc_X1_18 : sa_Fc RX1 18 1 2 (.array .int) := ⟨TX1, 5, tyX1, rfl, by decide, rfl, inX1, tyX1_ok, nmX1, sa_at 177 (by decide +kernel) rfl, rfl, rfl, rfl⟩
theorem fc_X1_21 : sa_Fc RX1 21 1 3 (.array .int) := ⟨TX1, 5, tyX1, rfl, by decide, rfl, inX1, tyX1_ok, nmX1, sa_at 178 (by decide +kernel) rfl, rfl, rfl, rfl⟩
theorem fc_X1_24 : sa_Fc RX1 24 1 4 (.array .int) := ⟨TX1, 5, tyX1, rfl, by decide, rfl, inX1, tyX1_ok, nmX1, sa_at 179 (by decide +kernel) rfl, rfl, rfl, rfl⟩
theorem fc_X2_15 : sa_Fc RX2 15 2 1 (.array .int) := ⟨TX2, 3, tyX2, rfl, by decide, rfl, inX2, tyX2_ok, nmX2, sa_at 216 (by decide +kernel) rfl, rfl, rfl, rfl⟩
theorem fc_X2_9 : sa_Fc RX2 9 2 0 (.array .int) := ⟨TX2, 3, tyX2, rfl, by decide, rfl, inX2, tyX2_ok, nmX2, sa_at 215 (by decide +kernel) rfl, rfl, rfl, rfl⟩
theorem fc_X3_11 : sa_Fc RX3 11 3 0 (.array (.object "SaltArmy$Law")) := ⟨TX3, 4, tyX3, rfl, by decide, rfl, inX3, tyX3_ok, nmX3, sa_at 226 (by decide +kernel) rfl, rfl, rfl, rfl⟩
theorem fc_X3_25 : sa_Fc RX3 25 3 1 (.array .int) := ⟨TX3, 4, tyX3, rfl, by decide, rfl, inX3, tyX3_ok, nmX3, sa_at 228 (by decide +kernel) rfl, rfl, rfl, rfl⟩
theorem fc_X3_29 : sa_Fc RX3 29 3 3 .int := ⟨TX3, 4, tyX3, rfl, by decide, rfl, inX3, tyX3_ok, nmX3, sa_at 231 (by decide +kernel) rfl, rfl, rfl, rfl⟩
theorem fc_X4_11 : sa_Fc RX4 11 4 0 (.array .int) := ⟨TX4, 2, tyX4, rfl, by decide, rfl, inX4, tyX4_ok, nmX4, sa_at 249 (by decide +kernel) rfl, rfl, rfl, rfl⟩
theorem fc_X5_13 : sa_Fc RX5 13 5 0 (.array (.object "SaltArmy$Camp")) := ⟨TX5, 5, tyX5, rfl, by decide, rfl, inX5, tyX5_ok, nmX5, sa_at 284 (by decide +kernel) rfl, rfl, rfl, rfl⟩
theorem fc_X5_18 : sa_Fc RX5 18 5 1 (.object "SaltArmy$Camp") := ⟨TX5, 5, tyX5, rfl, by decide, rfl, inX5, tyX5_ok, nmX5, sa_at 285 (by decide +kernel) rfl, rfl, rfl, rfl⟩
theorem fc_X6_11 : sa_Fc RX6 11 6 0 (.array .int) := ⟨TX6, 2, tyX6, rfl, by decide, rfl, inX6, tyX6_ok, nmX6, sa_at 310 (by decide +kernel) rfl, rfl, rfl, rfl⟩
theorem fc_X7_11 : sa_Fc RX7 11 7 0 (.array .int) := ⟨TX7, 3, tyX7, rfl, by decide, rfl, inX7, tyX7_ok, nmX7, sa_at 153 (by decide +kernel) rfl, rfl, rfl, rfl⟩
theorem fc_X8_11 : sa_Fc RX8 11 8 0 (.array .int) := ⟨TX8, 6, tyX8, rfl, by decide, rfl, inX8, tyX8_ok, nmX8, sa_at 389 (by decide +kernel) rfl, rfl, rfl, rfl⟩
theorem fc_X8_15 : sa_Fc RX8 15 8 1 (.array .int) := ⟨TX8, 6, tyX8, rfl, by decide, rfl, inX8, tyX8_ok, nmX8, sa_at 390 (by decide +kernel) rfl, rfl, rfl, rfl⟩
theorem fc_X8_18 : sa_Fc RX8 18 8 3 (.array .int) := ⟨TX8, 6, tyX8, rfl, by decide, rfl, inX8, tyX8_ok, nmX8, sa_at 393 (by decide +kernel) rfl, rfl, rfl, rfl⟩
theorem fc_X8_21 : sa_Fc RX8 21 8 4 (.array .int) := ⟨TX8, 6, tyX8, rfl, by decide, rfl, inX8, tyX8_ok, nmX8, sa_at 394 (by decide +kernel) rfl, rfl, rfl, rfl⟩
theorem fc_X9_11 : sa_Fc RX9 11 9 10 (.array .int) := ⟨TX9, 17, tyX9, rfl, by decide, rfl, inX9, tyX9_ok, nmX9, sa_at 340 (by decide +kernel) rfl, rfl, rfl, rfl⟩
theorem fc_X9_15 : sa_Fc RX9 15 9 11 (.array .int) := ⟨TX9, 17, tyX9, rfl, by decide, rfl, inX9, tyX9_ok, nmX9, sa_at 341 (by decide +kernel) rfl, rfl, rfl, rfl⟩
theorem fc_X9_18 : sa_Fc RX9 18 9 12 (.array .int) := ⟨TX9, 17, tyX9, rfl, by decide, rfl, inX9, tyX9_ok, nmX9, sa_at 342 (by decide +kernel) rfl, rfl, rfl, rfl⟩
theorem fc_X9_23 : sa_Fc RX9 23 9 13 (.array (.array .long)) := ⟨TX9, 17, tyX9, rfl, by decide, rfl, inX9, tyX9_ok, nmX9, sa_at 343 (by decide +kernel) rfl, rfl, rfl, rfl⟩
theorem fc_X9_26 : sa_Fc RX9 26 9 14 (.array .int) := ⟨TX9, 17, tyX9, rfl, by decide, rfl, inX9, tyX9_ok, nmX9, sa_at 344 (by decide +kernel) rfl, rfl, rfl, rfl⟩
theorem fc_X9_29 : sa_Fc RX9 29 9 16 (.array .long) := ⟨TX9, 17, tyX9, rfl, by decide, rfl, inX9, tyX9_ok, nmX9, sa_at 346 (by decide +kernel) rfl, rfl, rfl, rfl⟩
theorem fc_X9_33 : sa_Fc RX9 33 9 0 (.object "SaltArmy$Laws") := ⟨TX9, 17, tyX9, rfl, by decide, rfl, inX9, tyX9_ok, nmX9, sa_at 326 (by decide +kernel) rfl, rfl, rfl, rfl⟩
theorem fc_X9_37 : sa_Fc RX9 37 9 1 (.object "SaltArmy$Sky") := ⟨TX9, 17, tyX9, rfl, by decide, rfl, inX9, tyX9_ok, nmX9, sa_at 327 (by decide +kernel) rfl, rfl, rfl, rfl⟩
theorem cd_X0 : sa_Cd 0 RX0 TX0 3 tyX0 := ⟨rfl, rfl, inX0, tyX0_ok, sa_at 258 (by decide +kernel) rfl, sa_at 121 (by decide +kernel) rfl, by decide⟩
theorem cd_X1 : sa_Cd 1 RX1 TX1 5 tyX1 := ⟨rfl, rfl, inX1, tyX1_ok, sa_at 167 (by decide +kernel) rfl, sa_at 116 (by decide +kernel) rfl, by decide⟩
theorem cd_X10 : sa_Cd 10 RX10 TX10 2 tyX10 := ⟨rfl, rfl, inX10, tyX10_ok, sa_at 410 (by decide +kernel) rfl, sa_at 127 (by decide +kernel) rfl, by decide⟩
theorem cd_X11 : sa_Cd 11 RX11 TX11 13 tyX11 := ⟨rfl, rfl, inX11, tyX11_ok, sa_at 140 (by decide +kernel) rfl, sa_at 114 (by decide +kernel) rfl, by decide⟩
theorem cd_X12 : sa_Cd 12 RX12 TX12 74 tyX12 := ⟨rfl, rfl, inX12, tyX12_ok, sa_at 1380 (by decide +kernel) rfl, sa_at 128 (by decide +kernel) rfl, by decide⟩
theorem cd_X2 : sa_Cd 2 RX2 TX2 3 tyX2 := ⟨rfl, rfl, inX2, tyX2_ok, sa_at 210 (by decide +kernel) rfl, sa_at 119 (by decide +kernel) rfl, by decide⟩
theorem cd_X3 : sa_Cd 3 RX3 TX3 4 tyX3 := ⟨rfl, rfl, inX3, tyX3_ok, sa_at 192 (by decide +kernel) rfl, sa_at 117 (by decide +kernel) rfl, by decide⟩
theorem cd_X4 : sa_Cd 4 RX4 TX4 2 tyX4 := ⟨rfl, rfl, inX4, tyX4_ok, sa_at 244 (by decide +kernel) rfl, sa_at 120 (by decide +kernel) rfl, by decide⟩
theorem cd_X5 : sa_Cd 5 RX5 TX5 5 tyX5 := ⟨rfl, rfl, inX5, tyX5_ok, sa_at 276 (by decide +kernel) rfl, sa_at 122 (by decide +kernel) rfl, by decide⟩
theorem cd_X6 : sa_Cd 6 RX6 TX6 2 tyX6 := ⟨rfl, rfl, inX6, tyX6_ok, sa_at 302 (by decide +kernel) rfl, sa_at 123 (by decide +kernel) rfl, by decide⟩
theorem cd_X7 : sa_Cd 7 RX7 TX7 3 tyX7 := ⟨rfl, rfl, inX7, tyX7_ok, sa_at 148 (by decide +kernel) rfl, sa_at 115 (by decide +kernel) rfl, by decide⟩
theorem cd_X8 : sa_Cd 8 RX8 TX8 6 tyX8 := ⟨rfl, rfl, inX8, tyX8_ok, sa_at 384 (by decide +kernel) rfl, sa_at 126 (by decide +kernel) rfl, by decide⟩
theorem cd_X9 : sa_Cd 9 RX9 TX9 17 tyX9 := ⟨rfl, rfl, inX9, tyX9_ok, sa_at 319 (by decide +kernel) rfl, sa_at 125 (by decide +kernel) rfl, by decide⟩
theorem ds_X7_init : yX7_init.cls ≠ "java/lang/invoke/MethodHandle" ∧ yX7_init.cls ≠ "java/lang/invoke/VarHandle" ∧ (parseMethodDescriptor yX7_init.desc).map (fun d => d.parameters.length) = some 0 := by decide +kernel
theorem ds_X1_init : yX1_init.cls ≠ "java/lang/invoke/MethodHandle" ∧ yX1_init.cls ≠ "java/lang/invoke/VarHandle" ∧ (parseMethodDescriptor yX1_init.desc).map (fun d => d.parameters.length) = some 0 := by decide +kernel
theorem ds_X2_init : yX2_init.cls ≠ "java/lang/invoke/MethodHandle" ∧ yX2_init.cls ≠ "java/lang/invoke/VarHandle" ∧ (parseMethodDescriptor yX2_init.desc).map (fun d => d.parameters.length) = some 0 := by decide +kernel
theorem ds_X3_init : yX3_init.cls ≠ "java/lang/invoke/MethodHandle" ∧ yX3_init.cls ≠ "java/lang/invoke/VarHandle" ∧ (parseMethodDescriptor yX3_init.desc).map (fun d => d.parameters.length) = some 0 := by decide +kernel
theorem ds_X4_init : yX4_init.cls ≠ "java/lang/invoke/MethodHandle" ∧ yX4_init.cls ≠ "java/lang/invoke/VarHandle" ∧ (parseMethodDescriptor yX4_init.desc).map (fun d => d.parameters.length) = some 0 := by decide +kernel
theorem ds_X0_init : yX0_init.cls ≠ "java/lang/invoke/MethodHandle" ∧ yX0_init.cls ≠ "java/lang/invoke/VarHandle" ∧ (parseMethodDescriptor yX0_init.desc).map (fun d => d.parameters.length) = some 0 := by decide +kernel
theorem ds_X5_init : yX5_init.cls ≠ "java/lang/invoke/MethodHandle" ∧ yX5_init.cls ≠ "java/lang/invoke/VarHandle" ∧ (parseMethodDescriptor yX5_init.desc).map (fun d => d.parameters.length) = some 0 := by decide +kernel
theorem ds_X6_init : yX6_init.cls ≠ "java/lang/invoke/MethodHandle" ∧ yX6_init.cls ≠ "java/lang/invoke/VarHandle" ∧ (parseMethodDescriptor yX6_init.desc).map (fun d => d.parameters.length) = some 0 := by decide +kernel
theorem ds_X9_init : yX9_init.cls ≠ "java/lang/invoke/MethodHandle" ∧ yX9_init.cls ≠ "java/lang/invoke/VarHandle" ∧ (parseMethodDescriptor yX9_init.desc).map (fun d => d.parameters.length) = some 2 := by decide +kernel
theorem ds_X8_init : yX8_init.cls ≠ "java/lang/invoke/MethodHandle" ∧ yX8_init.cls ≠ "java/lang/invoke/VarHandle" ∧ (parseMethodDescriptor yX8_init.desc).map (fun d => d.parameters.length) = some 0 := by decide +kernel
theorem ds_X10_init : yX10_init.cls ≠ "java/lang/invoke/MethodHandle" ∧ yX10_init.cls ≠ "java/lang/invoke/VarHandle" ∧ (parseMethodDescriptor yX10_init.desc).map (fun d => d.parameters.length) = some 0 := by decide +kernel
section SACTOR3
variable {p : Program} {l : Launch} {e : Env} {s : State} {m : MethodId} {args : Array Value} {below : List Frame} {meth : Method} {c : Code} {nL d : Nat} {D : va_G} {ad : Nat → Nat} {cA : FieldType → ClassId} {A : Nat → Prop} {N0 k N : Nat} {rv : Option Value} {σ τ : sa_St}
variable {cc : ByteArray} {own name : String} {ret : Option FieldType} {pc : Nat} {lv : List (Nat × Value)} {st : List Value}
theorem sc_st {σ' : sa_St} (h : σ' = σ) (kk : sa_Sc p l e s m args below meth c nL d D ad cA A N0 k rv τ N σ' pc lv st) : sa_Sc p l e s m args below meth c nL d D ad cA A N0 k rv τ N σ pc lv st := by
  subst h
  exact kk
theorem sc_top {v w : Int32} (h : w = v) (kk : sa_Sc p l e s m args below meth c nL d D ad cA A N0 k rv τ N σ pc lv (.int v :: st)) : sa_Sc p l e s m args below meth c nL d D ad cA A N0 k rv τ N σ pc lv ((some (Value.int w)).toList ++ st) := by
  subst h
  exact kk
end SACTOR3
theorem d_X7_init_0 : decode cX7_init 0 = .ok (.aload_n 0, 1) := by decide +kernel
theorem d_X7_init_1 : decode cX7_init 1 = .ok (.invokespecial 3, 3) := by decide +kernel
theorem d_X7_init_4 : decode cX7_init 4 = .ok (.aload_n 0, 1) := by decide +kernel
theorem d_X7_init_5 : decode cX7_init 5 = .ok (.sipush 240, 3) := by decide +kernel
theorem d_X7_init_8 : decode cX7_init 8 = .ok (.newarray .int, 2) := by decide +kernel
theorem d_X7_init_10 : decode cX7_init 10 = .ok (.putfield 11, 3) := by decide +kernel
theorem d_X7_init_13 : decode cX7_init 13 = .ok (.return_, 1) := by decide +kernel
def t_X7 (σ : sa_St) : sa_St := (sa_upR (sa_nw σ 2) 1 0 (2 + 1))
set_option maxHeartbeats 4000000 in
set_option maxRecDepth 20000 in
theorem bc_X7 {p : Program} {l : Launch} {e : Env} {s : State} {m : MethodId} {args : Array Value} {below : List Frame} {meth : Method} {c : Code} {D : va_G} {ad : Nat → Nat} {cA : FieldType → ClassId} {A : Nat → Prop} (σ : sa_St) (had : ∀ i, i < sa_all → ad (i + 1) = ad i + 1) (C : sa_C p s m args meth c cX7_init RX7 "<init>" 1 none D ad cA A) : sa_Sc p l e s m args below meth c 1 1 D ad cA A 2 1 none (t_X7 σ) 2 σ 0 [(0, .ref (ad 1))] [] := by
  unfold t_X7
  refine sc_aload_n C d_X7_init_0 rfl 0 rfl ?_
  refine sc_objInit C q152 q145 q146 (by decide) (Nat.le_of_ble_eq_true rfl) d_X7_init_1 ?_
  refine sc_aload_n C d_X7_init_4 rfl 0 rfl ?_
  refine sc_sipush (v := 240) C d_X7_init_5 (by decide) ?_
  refine sc_newa_int C q165 rfl (by decide) (by decide) (by decide) (by decide) (by decide) (had _ (sa_lt (k := .inr (.int, 240)) rfl)) d_X7_init_8 ?_
  refine sc_N (N' := 3) rfl ?_
  refine sc_putR (v := 2) C fc_X7_11 rfl rfl rfl (by decide) d_X7_init_10 ?_
  exact sc_vret C rfl d_X7_init_13
theorem kc_X7 (σ : sa_St) : sa_Mc 1 2 1 yX7_init cX7_init 1 none (fun ad => [.ref (ad 1)]) none σ (t_X7 σ) := sa_mkc (by decide) (fun ad => Nat.le_of_ble_eq_true rfl) (fun p l e s m args below meth c D ad cA A had C => bc_X7 σ had C)
theorem d_X1_init_0 : decode cX1_init 0 = .ok (.aload_n 0, 1) := by decide +kernel
theorem d_X1_init_1 : decode cX1_init 1 = .ok (.invokespecial 3, 3) := by decide +kernel
theorem d_X1_init_4 : decode cX1_init 4 = .ok (.aload_n 0, 1) := by decide +kernel
theorem d_X1_init_5 : decode cX1_init 5 = .ok (.iconst 4, 1) := by decide +kernel
theorem d_X1_init_6 : decode cX1_init 6 = .ok (.newarray .int, 2) := by decide +kernel
theorem d_X1_init_8 : decode cX1_init 8 = .ok (.putfield 11, 3) := by decide +kernel
theorem d_X1_init_11 : decode cX1_init 11 = .ok (.aload_n 0, 1) := by decide +kernel
theorem d_X1_init_12 : decode cX1_init 12 = .ok (.sipush 240, 3) := by decide +kernel
theorem d_X1_init_15 : decode cX1_init 15 = .ok (.newarray .int, 2) := by decide +kernel
theorem d_X1_init_17 : decode cX1_init 17 = .ok (.putfield 15, 3) := by decide +kernel
theorem d_X1_init_20 : decode cX1_init 20 = .ok (.aload_n 0, 1) := by decide +kernel
theorem d_X1_init_21 : decode cX1_init 21 = .ok (.bipush 64, 2) := by decide +kernel
theorem d_X1_init_23 : decode cX1_init 23 = .ok (.newarray .int, 2) := by decide +kernel
theorem d_X1_init_25 : decode cX1_init 25 = .ok (.putfield 18, 3) := by decide +kernel
theorem d_X1_init_28 : decode cX1_init 28 = .ok (.aload_n 0, 1) := by decide +kernel
theorem d_X1_init_29 : decode cX1_init 29 = .ok (.bipush 64, 2) := by decide +kernel
theorem d_X1_init_31 : decode cX1_init 31 = .ok (.newarray .int, 2) := by decide +kernel
theorem d_X1_init_33 : decode cX1_init 33 = .ok (.putfield 21, 3) := by decide +kernel
theorem d_X1_init_36 : decode cX1_init 36 = .ok (.aload_n 0, 1) := by decide +kernel
theorem d_X1_init_37 : decode cX1_init 37 = .ok (.bipush 64, 2) := by decide +kernel
theorem d_X1_init_39 : decode cX1_init 39 = .ok (.newarray .int, 2) := by decide +kernel
theorem d_X1_init_41 : decode cX1_init 41 = .ok (.putfield 24, 3) := by decide +kernel
theorem d_X1_init_44 : decode cX1_init 44 = .ok (.return_, 1) := by decide +kernel
def t_X1 (o N : Nat) (σ : sa_St) : sa_St := (sa_upR (sa_nw (sa_upR (sa_nw (sa_upR (sa_nw (sa_upR (sa_nw (sa_upR (sa_nw σ (N)) o 0 (N + 1)) (N + 1)) o 1 (N + 1 + 1)) (N + 1 + 1)) o 2 (N + 1 + 1 + 1)) (N + 1 + 1 + 1)) o 3 (N + 1 + 1 + 1 + 1)) (N + 1 + 1 + 1 + 1)) o 4 (N + 1 + 1 + 1 + 1 + 1))
set_option maxHeartbeats 1000000 in
theorem bc_X1 {p : Program} {l : Launch} {e : Env} {s : State} {m : MethodId} {args : Array Value} {below : List Frame} {meth : Method} {c : Code} {D : va_G} {ad : Nat → Nat} {cA : FieldType → ClassId} {A : Nat → Prop} (o N : Nat) (σ : sa_St) (hoN : o < N) (ho : sa_sh o = some (.inl 1)) (h0 : sa_sh (N) = some (.inr (.int, 4))) (h1 : sa_sh (N + 1) = some (.inr (.int, 240))) (h2 : sa_sh (N + 1 + 1) = some (.inr (.int, 64))) (h3 : sa_sh (N + 1 + 1 + 1) = some (.inr (.int, 64))) (h4 : sa_sh (N + 1 + 1 + 1 + 1) = some (.inr (.int, 64))) (had : ∀ i, i < sa_all → ad (i + 1) = ad i + 1) (C : sa_C p s m args meth c cX1_init RX1 "<init>" 1 none D ad cA A) : sa_Sc p l e s m args below meth c 1 1 D ad cA A N 5 none (t_X1 o N σ) N σ 0 [(0, .ref (ad o))] [] := by
  unfold t_X1
  refine sc_aload_n C d_X1_init_0 rfl 0 rfl ?_
  refine sc_objInit C q171 q145 q146 (by decide) (Nat.le_of_ble_eq_true rfl) d_X1_init_1 ?_
  refine sc_aload_n C d_X1_init_4 rfl 0 rfl ?_
  refine sc_iconst (v := 4) C d_X1_init_5 (by decide) ?_
  refine sc_newa_int C q165 h0 (by decide) (by decide) (by decide) (by omega) (by omega) (had _ (sa_lt (k := .inr (.int, 4)) h0)) d_X1_init_6 ?_
  refine sc_putR (v := N) C fc_X1_11 rfl rfl ho (by omega) d_X1_init_8 ?_
  refine sc_aload_n C d_X1_init_11 rfl 0 rfl ?_
  refine sc_sipush (v := 240) C d_X1_init_12 (by decide) ?_
  refine sc_newa_int C q165 h1 (by decide) (by decide) (by decide) (by omega) (by omega) (had _ (sa_lt (k := .inr (.int, 240)) h1)) d_X1_init_15 ?_
  refine sc_putR (v := N + 1) C fc_X1_15 rfl rfl ho (by omega) d_X1_init_17 ?_
  refine sc_aload_n C d_X1_init_20 rfl 0 rfl ?_
  refine sc_bipush (v := 64) C d_X1_init_21 (by decide) ?_
  refine sc_newa_int C q165 h2 (by decide) (by decide) (by decide) (by omega) (by omega) (had _ (sa_lt (k := .inr (.int, 64)) h2)) d_X1_init_23 ?_
  refine sc_putR (v := N + 1 + 1) C fc_X1_18 rfl rfl ho (by omega) d_X1_init_25 ?_
  refine sc_aload_n C d_X1_init_28 rfl 0 rfl ?_
  refine sc_bipush (v := 64) C d_X1_init_29 (by decide) ?_
  refine sc_newa_int C q165 h3 (by decide) (by decide) (by decide) (by omega) (by omega) (had _ (sa_lt (k := .inr (.int, 64)) h3)) d_X1_init_31 ?_
  refine sc_putR (v := N + 1 + 1 + 1) C fc_X1_21 rfl rfl ho (by omega) d_X1_init_33 ?_
  refine sc_aload_n C d_X1_init_36 rfl 0 rfl ?_
  refine sc_bipush (v := 64) C d_X1_init_37 (by decide) ?_
  refine sc_newa_int C q165 h4 (by decide) (by decide) (by decide) (by omega) (by omega) (had _ (sa_lt (k := .inr (.int, 64)) h4)) d_X1_init_39 ?_
  refine sc_putR (v := N + 1 + 1 + 1 + 1) C fc_X1_24 rfl rfl ho (by omega) d_X1_init_41 ?_
  exact sc_vret C (by omega) d_X1_init_44
theorem kc_X1 (o N : Nat) (σ : sa_St) (hoN : o < N) (ho : sa_sh o = some (.inl 1)) (h0 : sa_sh (N) = some (.inr (.int, 4))) (h1 : sa_sh (N + 1) = some (.inr (.int, 240))) (h2 : sa_sh (N + 1 + 1) = some (.inr (.int, 64))) (h3 : sa_sh (N + 1 + 1 + 1) = some (.inr (.int, 64))) (h4 : sa_sh (N + 1 + 1 + 1 + 1) = some (.inr (.int, 64))) : sa_Mc 1 N 5 yX1_init cX1_init 1 none (fun ad => [.ref (ad o)]) none σ (t_X1 o N σ) := sa_mkc (by decide) (fun ad => Nat.le_of_ble_eq_true rfl) (fun p l e s m args below meth c D ad cA A had C => bc_X1 o N σ hoN ho h0 h1 h2 h3 h4 had C)
theorem d_X2_init_0 : decode cX2_init 0 = .ok (.aload_n 0, 1) := by decide +kernel
theorem d_X2_init_1 : decode cX2_init 1 = .ok (.invokespecial 1, 3) := by decide +kernel
theorem d_X2_init_4 : decode cX2_init 4 = .ok (.aload_n 0, 1) := by decide +kernel
theorem d_X2_init_5 : decode cX2_init 5 = .ok (.sipush 241, 3) := by decide +kernel
theorem d_X2_init_8 : decode cX2_init 8 = .ok (.newarray .int, 2) := by decide +kernel
theorem d_X2_init_10 : decode cX2_init 10 = .ok (.putfield 9, 3) := by decide +kernel
theorem d_X2_init_13 : decode cX2_init 13 = .ok (.aload_n 0, 1) := by decide +kernel
theorem d_X2_init_14 : decode cX2_init 14 = .ok (.bipush 32, 2) := by decide +kernel
theorem d_X2_init_16 : decode cX2_init 16 = .ok (.newarray .int, 2) := by decide +kernel
theorem d_X2_init_18 : decode cX2_init 18 = .ok (.putfield 15, 3) := by decide +kernel
theorem d_X2_init_21 : decode cX2_init 21 = .ok (.return_, 1) := by decide +kernel
def t_X2 (o N : Nat) (σ : sa_St) : sa_St := (sa_upR (sa_nw (sa_upR (sa_nw σ (N)) o 0 (N + 1)) (N + 1)) o 1 (N + 1 + 1))
set_option maxHeartbeats 1000000 in
theorem bc_X2 {p : Program} {l : Launch} {e : Env} {s : State} {m : MethodId} {args : Array Value} {below : List Frame} {meth : Method} {c : Code} {D : va_G} {ad : Nat → Nat} {cA : FieldType → ClassId} {A : Nat → Prop} (o N : Nat) (σ : sa_St) (hoN : o < N) (ho : sa_sh o = some (.inl 2)) (h0 : sa_sh (N) = some (.inr (.int, 241))) (h1 : sa_sh (N + 1) = some (.inr (.int, 32))) (had : ∀ i, i < sa_all → ad (i + 1) = ad i + 1) (C : sa_C p s m args meth c cX2_init RX2 "<init>" 1 none D ad cA A) : sa_Sc p l e s m args below meth c 1 1 D ad cA A N 2 none (t_X2 o N σ) N σ 0 [(0, .ref (ad o))] [] := by
  unfold t_X2
  refine sc_aload_n C d_X2_init_0 rfl 0 rfl ?_
  refine sc_objInit C q214 q145 q146 (by decide) (Nat.le_of_ble_eq_true rfl) d_X2_init_1 ?_
  refine sc_aload_n C d_X2_init_4 rfl 0 rfl ?_
  refine sc_sipush (v := 241) C d_X2_init_5 (by decide) ?_
  refine sc_newa_int C q165 h0 (by decide) (by decide) (by decide) (by omega) (by omega) (had _ (sa_lt (k := .inr (.int, 241)) h0)) d_X2_init_8 ?_
  refine sc_putR (v := N) C fc_X2_9 rfl rfl ho (by omega) d_X2_init_10 ?_
  refine sc_aload_n C d_X2_init_13 rfl 0 rfl ?_
  refine sc_bipush (v := 32) C d_X2_init_14 (by decide) ?_
  refine sc_newa_int C q165 h1 (by decide) (by decide) (by decide) (by omega) (by omega) (had _ (sa_lt (k := .inr (.int, 32)) h1)) d_X2_init_16 ?_
  refine sc_putR (v := N + 1) C fc_X2_15 rfl rfl ho (by omega) d_X2_init_18 ?_
  exact sc_vret C (by omega) d_X2_init_21
theorem kc_X2 (o N : Nat) (σ : sa_St) (hoN : o < N) (ho : sa_sh o = some (.inl 2)) (h0 : sa_sh (N) = some (.inr (.int, 241))) (h1 : sa_sh (N + 1) = some (.inr (.int, 32))) : sa_Mc 1 N 2 yX2_init cX2_init 1 none (fun ad => [.ref (ad o)]) none σ (t_X2 o N σ) := sa_mkc (by decide) (fun ad => Nat.le_of_ble_eq_true rfl) (fun p l e s m args below meth c D ad cA A had C => bc_X2 o N σ hoN ho h0 h1 had C)
theorem d_X3_init_0 : decode cX3_init 0 = .ok (.aload_n 0, 1) := by decide +kernel
theorem d_X3_init_1 : decode cX3_init 1 = .ok (.invokespecial 3, 3) := by decide +kernel
theorem d_X3_init_4 : decode cX3_init 4 = .ok (.aload_n 0, 1) := by decide +kernel
theorem d_X3_init_5 : decode cX3_init 5 = .ok (.iconst 5, 1) := by decide +kernel
theorem d_X3_init_6 : decode cX3_init 6 = .ok (.anewarray 9, 3) := by decide +kernel
theorem d_X3_init_9 : decode cX3_init 9 = .ok (.putfield 11, 3) := by decide +kernel
theorem d_X3_init_12 : decode cX3_init 12 = .ok (.aload_n 0, 1) := by decide +kernel
theorem d_X3_init_13 : decode cX3_init 13 = .ok (.ldc 17, 2) := by decide +kernel
theorem d_X3_init_15 : decode cX3_init 15 = .ok (.invokevirtual 19, 3) := by decide +kernel
theorem d_X3_init_18 : decode cX3_init 18 = .ok (.newarray .int, 2) := by decide +kernel
theorem d_X3_init_20 : decode cX3_init 20 = .ok (.putfield 25, 3) := by decide +kernel
theorem d_X3_init_23 : decode cX3_init 23 = .ok (.aload_n 0, 1) := by decide +kernel
theorem d_X3_init_24 : decode cX3_init 24 = .ok (.iconst (-1), 1) := by decide +kernel
theorem d_X3_init_25 : decode cX3_init 25 = .ok (.putfield 29, 3) := by decide +kernel
theorem d_X3_init_28 : decode cX3_init 28 = .ok (.iconst 0, 1) := by decide +kernel
theorem d_X3_init_29 : decode cX3_init 29 = .ok (.istore_n 1, 1) := by decide +kernel
theorem d_X3_init_30 : decode cX3_init 30 = .ok (.iload_n 1, 1) := by decide +kernel
theorem d_X3_init_31 : decode cX3_init 31 = .ok (.aload_n 0, 1) := by decide +kernel
theorem d_X3_init_32 : decode cX3_init 32 = .ok (.getfield 11, 3) := by decide +kernel
theorem d_X3_init_35 : decode cX3_init 35 = .ok (.arraylength, 1) := by decide +kernel
theorem d_X3_init_36 : decode cX3_init 36 = .ok (.if_icmp .ge 22, 3) := by decide +kernel
theorem d_X3_init_39 : decode cX3_init 39 = .ok (.aload_n 0, 1) := by decide +kernel
theorem d_X3_init_40 : decode cX3_init 40 = .ok (.getfield 11, 3) := by decide +kernel
theorem d_X3_init_43 : decode cX3_init 43 = .ok (.iload_n 1, 1) := by decide +kernel
theorem d_X3_init_44 : decode cX3_init 44 = .ok (.new 9, 3) := by decide +kernel
theorem d_X3_init_47 : decode cX3_init 47 = .ok (.dup, 1) := by decide +kernel
theorem d_X3_init_48 : decode cX3_init 48 = .ok (.invokespecial 33, 3) := by decide +kernel
theorem d_X3_init_51 : decode cX3_init 51 = .ok (.aastore, 1) := by decide +kernel
theorem d_X3_init_52 : decode cX3_init 52 = .ok (.iinc 1 1, 3) := by decide +kernel
theorem d_X3_init_55 : decode cX3_init 55 = .ok (.goto (-25), 3) := by decide +kernel
theorem d_X3_init_58 : decode cX3_init 58 = .ok (.return_, 1) := by decide +kernel
def t_X3_0 (σ : sa_St) : sa_St := (sa_upR (t_X2 24 25 (sa_nw (sa_upR (t_X2 21 22 (sa_nw (sa_upR (t_X2 18 19 (sa_nw (sa_upI (sa_upR (sa_nw (sa_upR (sa_nw σ 16) 15 0 (16 + 1)) 17) 15 1 (17 + 1)) 15 3 (-1)) 18)) 16 (0 : Int32).toNatClampNeg (18 + 1)) 21)) 16 (1 : Int32).toNatClampNeg (21 + 1)) 24)) 16 (2 : Int32).toNatClampNeg (24 + 1))
def t_X3 (σ : sa_St) : sa_St := (sa_upR (t_X2 30 31 (sa_nw (sa_upR (t_X2 27 28 (sa_nw (t_X3_0 σ) 27)) 16 (3 : Int32).toNatClampNeg (27 + 1)) 30)) 16 (4 : Int32).toNatClampNeg (30 + 1))
set_option maxHeartbeats 4000000 in
set_option maxRecDepth 20000 in
theorem bc_X3 {p : Program} {l : Launch} {e : Env} {s : State} {m : MethodId} {args : Array Value} {below : List Frame} {meth : Method} {c : Code} {D : va_G} {ad : Nat → Nat} {cA : FieldType → ClassId} {A : Nat → Prop} (σ : sa_St) (had : ∀ i, i < sa_all → ad (i + 1) = ad i + 1) (C : sa_C p s m args meth c cX3_init RX3 "<init>" 2 none D ad cA A) : sa_Sc p l e s m args below meth c 2 3 D ad cA A 16 17 none (t_X3 σ) 16 σ 0 [(0, .ref (ad 15))] [] := by
  unfold t_X3
  refine sc_aload_n C d_X3_init_0 rfl 0 rfl ?_
  refine sc_objInit C q196 q145 q146 (by decide) (Nat.le_of_ble_eq_true rfl) d_X3_init_1 ?_
  refine sc_aload_n C d_X3_init_4 rfl 0 rfl ?_
  refine sc_iconst (v := 5) C d_X3_init_5 (by decide) ?_
  refine sc_anew_Law C q197 rfl (by decide) (by decide) (by decide) (by decide) (by decide) (had _ (sa_lt (k := .inr (.object "SaltArmy$Law", 5)) rfl)) d_X3_init_6 ?_
  refine sc_N (N' := 17) rfl ?_
  refine sc_putR (v := 16) C fc_X3_11 rfl rfl rfl (by decide) d_X3_init_9 ?_
  refine sc_aload_n C d_X3_init_12 rfl 0 rfl ?_
  refine sc_ldcS C 0 rfl d_X3_init_13 ?_
  refine sc_invK C had (by decide) (kc_length 17 0 (by decide) _) q203 ds_J0_length_8abf5 q118 rfl q201 q202 q200 rfl rfl rfl (Nat.le_of_ble_eq_true rfl) (by decide) (by decide) (by decide) (by decide) d_X3_init_15 ?_
  refine sc_top (v := 5) (by decide) ?_
  refine sc_newa_int C q165 rfl (by decide) (by decide) (by decide) (by decide) (by decide) (had _ (sa_lt (k := .inr (.int, 5)) rfl)) d_X3_init_18 ?_
  refine sc_N (N' := 18) rfl ?_
  refine sc_putR (v := 17) C fc_X3_25 rfl rfl rfl (by decide) d_X3_init_20 ?_
  refine sc_aload_n C d_X3_init_23 rfl 0 rfl ?_
  refine sc_iconst (v := (-1)) C d_X3_init_24 (by decide) ?_
  refine sc_putI C fc_X3_29 rfl rfl (by decide) d_X3_init_25 ?_
  refine sc_iconst (v := 0) C d_X3_init_28 (by decide) ?_
  refine sc_istore_n (lv' := [(1, .int 0), (0, .ref (ad 15))]) C d_X3_init_29 rfl (by decide) rfl ?_
  refine sc_iload_n C d_X3_init_30 rfl 0 rfl ?_
  refine sc_aload_n C d_X3_init_31 rfl 1 rfl ?_
  refine sc_getR (v := 16) C fd_X3_11 rfl rfl (by decide) rfl d_X3_init_32 ?_
  refine sc_alen_Law (n := 5) (v := 5) C rfl (by decide) (by decide) d_X3_init_35 ?_
  refine sc_ge_f (tgt := 58) C (by decide) d_X3_init_36 (by decide) ?_
  refine sc_aload_n C d_X3_init_39 rfl 1 rfl ?_
  refine sc_getR (v := 16) C fd_X3_11 rfl rfl (by decide) rfl d_X3_init_40 ?_
  refine sc_iload_n C d_X3_init_43 rfl 0 rfl ?_
  refine sc_new C cd_X2 q197 rfl (by decide) (by decide) (had _ (sa_lt (k := .inl 2) rfl)) d_X3_init_44 ?_
  refine sc_N (N' := 19) rfl ?_
  refine sc_dup C d_X3_init_47 rfl ?_
  refine sc_invN C had (kc_X2 18 19 _ (by decide) (by rfl) (by rfl) (by rfl)) q213 ds_X2_init q119 rfl q212 (by decide) rfl rfl rfl (Nat.le_of_ble_eq_true rfl) (by decide) (by decide) (by decide) (by decide) d_X3_init_48 ?_
  refine sc_N (N' := 21) rfl ?_
  refine sc_aast_Law (n := 5) C rfl (by decide) (by decide) rfl (by decide) d_X3_init_51 ?_
  refine sc_iinc (v := 1) (lv' := [(1, .int 1), (0, .ref (ad 15))]) C d_X3_init_52 0 rfl (by decide) (by decide) rfl ?_
  refine sc_goto (tgt := 30) C d_X3_init_55 (by decide) ?_
  refine sc_iload_n C d_X3_init_30 rfl 0 rfl ?_
  refine sc_aload_n C d_X3_init_31 rfl 1 rfl ?_
  refine sc_getR (v := 16) C fd_X3_11 rfl rfl (by decide) rfl d_X3_init_32 ?_
  refine sc_alen_Law (n := 5) (v := 5) C rfl (by decide) (by decide) d_X3_init_35 ?_
  refine sc_ge_f (tgt := 58) C (by decide) d_X3_init_36 (by decide) ?_
  refine sc_aload_n C d_X3_init_39 rfl 1 rfl ?_
  refine sc_getR (v := 16) C fd_X3_11 rfl rfl (by decide) rfl d_X3_init_40 ?_
  refine sc_iload_n C d_X3_init_43 rfl 0 rfl ?_
  refine sc_new C cd_X2 q197 rfl (by decide) (by decide) (had _ (sa_lt (k := .inl 2) rfl)) d_X3_init_44 ?_
  refine sc_N (N' := 22) rfl ?_
  refine sc_dup C d_X3_init_47 rfl ?_
  refine sc_invN C had (kc_X2 21 22 _ (by decide) (by rfl) (by rfl) (by rfl)) q213 ds_X2_init q119 rfl q212 (by decide) rfl rfl rfl (Nat.le_of_ble_eq_true rfl) (by decide) (by decide) (by decide) (by decide) d_X3_init_48 ?_
  refine sc_N (N' := 24) rfl ?_
  refine sc_aast_Law (n := 5) C rfl (by decide) (by decide) rfl (by decide) d_X3_init_51 ?_
  refine sc_iinc (v := 2) (lv' := [(1, .int 2), (0, .ref (ad 15))]) C d_X3_init_52 0 rfl (by decide) (by decide) rfl ?_
  refine sc_goto (tgt := 30) C d_X3_init_55 (by decide) ?_
  refine sc_iload_n C d_X3_init_30 rfl 0 rfl ?_
  refine sc_aload_n C d_X3_init_31 rfl 1 rfl ?_
  refine sc_getR (v := 16) C fd_X3_11 rfl rfl (by decide) rfl d_X3_init_32 ?_
  refine sc_alen_Law (n := 5) (v := 5) C rfl (by decide) (by decide) d_X3_init_35 ?_
  refine sc_ge_f (tgt := 58) C (by decide) d_X3_init_36 (by decide) ?_
  refine sc_aload_n C d_X3_init_39 rfl 1 rfl ?_
  refine sc_getR (v := 16) C fd_X3_11 rfl rfl (by decide) rfl d_X3_init_40 ?_
  refine sc_iload_n C d_X3_init_43 rfl 0 rfl ?_
  refine sc_new C cd_X2 q197 rfl (by decide) (by decide) (had _ (sa_lt (k := .inl 2) rfl)) d_X3_init_44 ?_
  refine sc_N (N' := 25) rfl ?_
  refine sc_dup C d_X3_init_47 rfl ?_
  refine sc_invN C had (kc_X2 24 25 _ (by decide) (by rfl) (by rfl) (by rfl)) q213 ds_X2_init q119 rfl q212 (by decide) rfl rfl rfl (Nat.le_of_ble_eq_true rfl) (by decide) (by decide) (by decide) (by decide) d_X3_init_48 ?_
  refine sc_N (N' := 27) rfl ?_
  refine sc_aast_Law (n := 5) C rfl (by decide) (by decide) rfl (by decide) d_X3_init_51 ?_
  refine sc_st (σ' := t_X3_0 σ) rfl ?_
  refine sc_iinc (v := 3) (lv' := [(1, .int 3), (0, .ref (ad 15))]) C d_X3_init_52 0 rfl (by decide) (by decide) rfl ?_
  refine sc_goto (tgt := 30) C d_X3_init_55 (by decide) ?_
  refine sc_iload_n C d_X3_init_30 rfl 0 rfl ?_
  refine sc_aload_n C d_X3_init_31 rfl 1 rfl ?_
  refine sc_getR (v := 16) C fd_X3_11 rfl rfl (by decide) rfl d_X3_init_32 ?_
  refine sc_alen_Law (n := 5) (v := 5) C rfl (by decide) (by decide) d_X3_init_35 ?_
  refine sc_ge_f (tgt := 58) C (by decide) d_X3_init_36 (by decide) ?_
  refine sc_aload_n C d_X3_init_39 rfl 1 rfl ?_
  refine sc_getR (v := 16) C fd_X3_11 rfl rfl (by decide) rfl d_X3_init_40 ?_
  refine sc_iload_n C d_X3_init_43 rfl 0 rfl ?_
  refine sc_new C cd_X2 q197 rfl (by decide) (by decide) (had _ (sa_lt (k := .inl 2) rfl)) d_X3_init_44 ?_
  refine sc_N (N' := 28) rfl ?_
  refine sc_dup C d_X3_init_47 rfl ?_
  refine sc_invN C had (kc_X2 27 28 _ (by decide) (by rfl) (by rfl) (by rfl)) q213 ds_X2_init q119 rfl q212 (by decide) rfl rfl rfl (Nat.le_of_ble_eq_true rfl) (by decide) (by decide) (by decide) (by decide) d_X3_init_48 ?_
  refine sc_N (N' := 30) rfl ?_
  refine sc_aast_Law (n := 5) C rfl (by decide) (by decide) rfl (by decide) d_X3_init_51 ?_
  refine sc_iinc (v := 4) (lv' := [(1, .int 4), (0, .ref (ad 15))]) C d_X3_init_52 0 rfl (by decide) (by decide) rfl ?_
  refine sc_goto (tgt := 30) C d_X3_init_55 (by decide) ?_
  refine sc_iload_n C d_X3_init_30 rfl 0 rfl ?_
  refine sc_aload_n C d_X3_init_31 rfl 1 rfl ?_
  refine sc_getR (v := 16) C fd_X3_11 rfl rfl (by decide) rfl d_X3_init_32 ?_
  refine sc_alen_Law (n := 5) (v := 5) C rfl (by decide) (by decide) d_X3_init_35 ?_
  refine sc_ge_f (tgt := 58) C (by decide) d_X3_init_36 (by decide) ?_
  refine sc_aload_n C d_X3_init_39 rfl 1 rfl ?_
  refine sc_getR (v := 16) C fd_X3_11 rfl rfl (by decide) rfl d_X3_init_40 ?_
  refine sc_iload_n C d_X3_init_43 rfl 0 rfl ?_
  refine sc_new C cd_X2 q197 rfl (by decide) (by decide) (had _ (sa_lt (k := .inl 2) rfl)) d_X3_init_44 ?_
  refine sc_N (N' := 31) rfl ?_
  refine sc_dup C d_X3_init_47 rfl ?_
  refine sc_invN C had (kc_X2 30 31 _ (by decide) (by rfl) (by rfl) (by rfl)) q213 ds_X2_init q119 rfl q212 (by decide) rfl rfl rfl (Nat.le_of_ble_eq_true rfl) (by decide) (by decide) (by decide) (by decide) d_X3_init_48 ?_
  refine sc_N (N' := 33) rfl ?_
  refine sc_aast_Law (n := 5) C rfl (by decide) (by decide) rfl (by decide) d_X3_init_51 ?_
  refine sc_iinc (v := 5) (lv' := [(1, .int 5), (0, .ref (ad 15))]) C d_X3_init_52 0 rfl (by decide) (by decide) rfl ?_
  refine sc_goto (tgt := 30) C d_X3_init_55 (by decide) ?_
  refine sc_iload_n C d_X3_init_30 rfl 0 rfl ?_
  refine sc_aload_n C d_X3_init_31 rfl 1 rfl ?_
  refine sc_getR (v := 16) C fd_X3_11 rfl rfl (by decide) rfl d_X3_init_32 ?_
  refine sc_alen_Law (n := 5) (v := 5) C rfl (by decide) (by decide) d_X3_init_35 ?_
  refine sc_ge_t (tgt := 58) C (by decide) d_X3_init_36 (by decide) ?_
  exact sc_vret C rfl d_X3_init_58
theorem kc_X3 (σ : sa_St) : sa_Mc 3 16 17 yX3_init cX3_init 2 none (fun ad => [.ref (ad 15)]) none σ (t_X3 σ) := sa_mkc (by decide) (fun ad => Nat.le_of_ble_eq_true rfl) (fun p l e s m args below meth c D ad cA A had C => bc_X3 σ had C)
theorem d_X4_init_0 : decode cX4_init 0 = .ok (.aload_n 0, 1) := by decide +kernel
theorem d_X4_init_1 : decode cX4_init 1 = .ok (.invokespecial 3, 3) := by decide +kernel
theorem d_X4_init_4 : decode cX4_init 4 = .ok (.aload_n 0, 1) := by decide +kernel
theorem d_X4_init_5 : decode cX4_init 5 = .ok (.bipush 48, 2) := by decide +kernel
theorem d_X4_init_7 : decode cX4_init 7 = .ok (.newarray .int, 2) := by decide +kernel
theorem d_X4_init_9 : decode cX4_init 9 = .ok (.putfield 11, 3) := by decide +kernel
theorem d_X4_init_12 : decode cX4_init 12 = .ok (.return_, 1) := by decide +kernel
def t_X4 (o N : Nat) (σ : sa_St) : sa_St := (sa_upR (sa_nw σ (N)) o 0 (N + 1))
set_option maxHeartbeats 1000000 in
theorem bc_X4 {p : Program} {l : Launch} {e : Env} {s : State} {m : MethodId} {args : Array Value} {below : List Frame} {meth : Method} {c : Code} {D : va_G} {ad : Nat → Nat} {cA : FieldType → ClassId} {A : Nat → Prop} (o N : Nat) (σ : sa_St) (hoN : o < N) (ho : sa_sh o = some (.inl 4)) (h0 : sa_sh (N) = some (.inr (.int, 48))) (had : ∀ i, i < sa_all → ad (i + 1) = ad i + 1) (C : sa_C p s m args meth c cX4_init RX4 "<init>" 1 none D ad cA A) : sa_Sc p l e s m args below meth c 1 1 D ad cA A N 1 none (t_X4 o N σ) N σ 0 [(0, .ref (ad o))] [] := by
  unfold t_X4
  refine sc_aload_n C d_X4_init_0 rfl 0 rfl ?_
  refine sc_objInit C q248 q145 q146 (by decide) (Nat.le_of_ble_eq_true rfl) d_X4_init_1 ?_
  refine sc_aload_n C d_X4_init_4 rfl 0 rfl ?_
  refine sc_bipush (v := 48) C d_X4_init_5 (by decide) ?_
  refine sc_newa_int C q165 h0 (by decide) (by decide) (by decide) (by omega) (by omega) (had _ (sa_lt (k := .inr (.int, 48)) h0)) d_X4_init_7 ?_
  refine sc_putR (v := N) C fc_X4_11 rfl rfl ho (by omega) d_X4_init_9 ?_
  exact sc_vret C (by omega) d_X4_init_12
theorem kc_X4 (o N : Nat) (σ : sa_St) (hoN : o < N) (ho : sa_sh o = some (.inl 4)) (h0 : sa_sh (N) = some (.inr (.int, 48))) : sa_Mc 1 N 1 yX4_init cX4_init 1 none (fun ad => [.ref (ad o)]) none σ (t_X4 o N σ) := sa_mkc (by decide) (fun ad => Nat.le_of_ble_eq_true rfl) (fun p l e s m args below meth c D ad cA A had C => bc_X4 o N σ hoN ho h0 had C)
theorem d_X0_init_0 : decode cX0_init 0 = .ok (.aload_n 0, 1) := by decide +kernel
theorem d_X0_init_1 : decode cX0_init 1 = .ok (.invokespecial 5, 3) := by decide +kernel
theorem d_X0_init_4 : decode cX0_init 4 = .ok (.aload_n 0, 1) := by decide +kernel
theorem d_X0_init_5 : decode cX0_init 5 = .ok (.sipush 259, 3) := by decide +kernel
theorem d_X0_init_8 : decode cX0_init 8 = .ok (.newarray .int, 2) := by decide +kernel
theorem d_X0_init_10 : decode cX0_init 10 = .ok (.putfield 11, 3) := by decide +kernel
theorem d_X0_init_13 : decode cX0_init 13 = .ok (.return_, 1) := by decide +kernel
def t_X0 (o N : Nat) (σ : sa_St) : sa_St := (sa_upR (sa_nw σ (N)) o 0 (N + 1))
set_option maxHeartbeats 1000000 in
theorem bc_X0 {p : Program} {l : Launch} {e : Env} {s : State} {m : MethodId} {args : Array Value} {below : List Frame} {meth : Method} {c : Code} {D : va_G} {ad : Nat → Nat} {cA : FieldType → ClassId} {A : Nat → Prop} (o N : Nat) (σ : sa_St) (hoN : o < N) (ho : sa_sh o = some (.inl 0)) (h0 : sa_sh (N) = some (.inr (.int, 259))) (had : ∀ i, i < sa_all → ad (i + 1) = ad i + 1) (C : sa_C p s m args meth c cX0_init RX0 "<init>" 1 none D ad cA A) : sa_Sc p l e s m args below meth c 1 1 D ad cA A N 1 none (t_X0 o N σ) N σ 0 [(0, .ref (ad o))] [] := by
  unfold t_X0
  refine sc_aload_n C d_X0_init_0 rfl 0 rfl ?_
  refine sc_objInit C q262 q145 q146 (by decide) (Nat.le_of_ble_eq_true rfl) d_X0_init_1 ?_
  refine sc_aload_n C d_X0_init_4 rfl 0 rfl ?_
  refine sc_sipush (v := 259) C d_X0_init_5 (by decide) ?_
  refine sc_newa_int C q165 h0 (by decide) (by decide) (by decide) (by omega) (by omega) (had _ (sa_lt (k := .inr (.int, 259)) h0)) d_X0_init_8 ?_
  refine sc_putR (v := N) C fc_X0_11 rfl rfl ho (by omega) d_X0_init_10 ?_
  exact sc_vret C (by omega) d_X0_init_13
theorem kc_X0 (o N : Nat) (σ : sa_St) (hoN : o < N) (ho : sa_sh o = some (.inl 0)) (h0 : sa_sh (N) = some (.inr (.int, 259))) : sa_Mc 1 N 1 yX0_init cX0_init 1 none (fun ad => [.ref (ad o)]) none σ (t_X0 o N σ) := sa_mkc (by decide) (fun ad => Nat.le_of_ble_eq_true rfl) (fun p l e s m args below meth c D ad cA A had C => bc_X0 o N σ hoN ho h0 had C)
theorem d_X5_init_0 : decode cX5_init 0 = .ok (.aload_n 0, 1) := by decide +kernel
theorem d_X5_init_1 : decode cX5_init 1 = .ok (.invokespecial 5, 3) := by decide +kernel
theorem d_X5_init_4 : decode cX5_init 4 = .ok (.aload_n 0, 1) := by decide +kernel
theorem d_X5_init_5 : decode cX5_init 5 = .ok (.bipush 41, 2) := by decide +kernel
theorem d_X5_init_7 : decode cX5_init 7 = .ok (.anewarray 11, 3) := by decide +kernel
theorem d_X5_init_10 : decode cX5_init 10 = .ok (.putfield 13, 3) := by decide +kernel
theorem d_X5_init_13 : decode cX5_init 13 = .ok (.aload_n 0, 1) := by decide +kernel
theorem d_X5_init_14 : decode cX5_init 14 = .ok (.new 11, 3) := by decide +kernel
theorem d_X5_init_17 : decode cX5_init 17 = .ok (.dup, 1) := by decide +kernel
theorem d_X5_init_18 : decode cX5_init 18 = .ok (.invokespecial 17, 3) := by decide +kernel
theorem d_X5_init_21 : decode cX5_init 21 = .ok (.putfield 18, 3) := by decide +kernel
theorem d_X5_init_24 : decode cX5_init 24 = .ok (.iconst 0, 1) := by decide +kernel
theorem d_X5_init_25 : decode cX5_init 25 = .ok (.istore_n 1, 1) := by decide +kernel
theorem d_X5_init_26 : decode cX5_init 26 = .ok (.iload_n 1, 1) := by decide +kernel
theorem d_X5_init_27 : decode cX5_init 27 = .ok (.bipush 41, 2) := by decide +kernel
theorem d_X5_init_29 : decode cX5_init 29 = .ok (.if_icmp .ge 22, 3) := by decide +kernel
theorem d_X5_init_32 : decode cX5_init 32 = .ok (.aload_n 0, 1) := by decide +kernel
theorem d_X5_init_33 : decode cX5_init 33 = .ok (.getfield 13, 3) := by decide +kernel
theorem d_X5_init_36 : decode cX5_init 36 = .ok (.iload_n 1, 1) := by decide +kernel
theorem d_X5_init_37 : decode cX5_init 37 = .ok (.new 11, 3) := by decide +kernel
theorem d_X5_init_40 : decode cX5_init 40 = .ok (.dup, 1) := by decide +kernel
theorem d_X5_init_41 : decode cX5_init 41 = .ok (.invokespecial 17, 3) := by decide +kernel
theorem d_X5_init_44 : decode cX5_init 44 = .ok (.aastore, 1) := by decide +kernel
theorem d_X5_init_45 : decode cX5_init 45 = .ok (.iinc 1 1, 3) := by decide +kernel
theorem d_X5_init_48 : decode cX5_init 48 = .ok (.goto (-22), 3) := by decide +kernel
theorem d_X5_init_51 : decode cX5_init 51 = .ok (.return_, 1) := by decide +kernel
def t_X5_0 (σ : sa_St) : sa_St := (sa_upR (t_X0 58 59 (sa_nw (sa_upR (t_X0 56 57 (sa_nw (sa_upR (t_X0 54 55 (sa_nw (sa_upR (t_X0 52 53 (sa_nw (sa_upR (t_X0 50 51 (sa_nw (sa_upR (sa_nw σ 49) 48 0 (49 + 1)) 50)) 48 1 (50 + 1)) 52)) 49 (0 : Int32).toNatClampNeg (52 + 1)) 54)) 49 (1 : Int32).toNatClampNeg (54 + 1)) 56)) 49 (2 : Int32).toNatClampNeg (56 + 1)) 58)) 49 (3 : Int32).toNatClampNeg (58 + 1))
def t_X5_1 (σ : sa_St) : sa_St := (sa_upR (t_X0 68 69 (sa_nw (sa_upR (t_X0 66 67 (sa_nw (sa_upR (t_X0 64 65 (sa_nw (sa_upR (t_X0 62 63 (sa_nw (sa_upR (t_X0 60 61 (sa_nw (t_X5_0 σ) 60)) 49 (4 : Int32).toNatClampNeg (60 + 1)) 62)) 49 (5 : Int32).toNatClampNeg (62 + 1)) 64)) 49 (6 : Int32).toNatClampNeg (64 + 1)) 66)) 49 (7 : Int32).toNatClampNeg (66 + 1)) 68)) 49 (8 : Int32).toNatClampNeg (68 + 1))
def t_X5_2 (σ : sa_St) : sa_St := (sa_upR (t_X0 78 79 (sa_nw (sa_upR (t_X0 76 77 (sa_nw (sa_upR (t_X0 74 75 (sa_nw (sa_upR (t_X0 72 73 (sa_nw (sa_upR (t_X0 70 71 (sa_nw (t_X5_1 σ) 70)) 49 (9 : Int32).toNatClampNeg (70 + 1)) 72)) 49 (10 : Int32).toNatClampNeg (72 + 1)) 74)) 49 (11 : Int32).toNatClampNeg (74 + 1)) 76)) 49 (12 : Int32).toNatClampNeg (76 + 1)) 78)) 49 (13 : Int32).toNatClampNeg (78 + 1))
def t_X5_3 (σ : sa_St) : sa_St := (sa_upR (t_X0 88 89 (sa_nw (sa_upR (t_X0 86 87 (sa_nw (sa_upR (t_X0 84 85 (sa_nw (sa_upR (t_X0 82 83 (sa_nw (sa_upR (t_X0 80 81 (sa_nw (t_X5_2 σ) 80)) 49 (14 : Int32).toNatClampNeg (80 + 1)) 82)) 49 (15 : Int32).toNatClampNeg (82 + 1)) 84)) 49 (16 : Int32).toNatClampNeg (84 + 1)) 86)) 49 (17 : Int32).toNatClampNeg (86 + 1)) 88)) 49 (18 : Int32).toNatClampNeg (88 + 1))
def t_X5_4 (σ : sa_St) : sa_St := (sa_upR (t_X0 98 99 (sa_nw (sa_upR (t_X0 96 97 (sa_nw (sa_upR (t_X0 94 95 (sa_nw (sa_upR (t_X0 92 93 (sa_nw (sa_upR (t_X0 90 91 (sa_nw (t_X5_3 σ) 90)) 49 (19 : Int32).toNatClampNeg (90 + 1)) 92)) 49 (20 : Int32).toNatClampNeg (92 + 1)) 94)) 49 (21 : Int32).toNatClampNeg (94 + 1)) 96)) 49 (22 : Int32).toNatClampNeg (96 + 1)) 98)) 49 (23 : Int32).toNatClampNeg (98 + 1))
def t_X5_5 (σ : sa_St) : sa_St := (sa_upR (t_X0 106 107 (sa_nw (sa_upR (t_X0 104 105 (sa_nw (sa_upR (t_X0 102 103 (sa_nw (sa_upR (t_X0 100 101 (sa_nw (t_X5_4 σ) 100)) 49 (24 : Int32).toNatClampNeg (100 + 1)) 102)) 49 (25 : Int32).toNatClampNeg (102 + 1)) 104)) 49 (26 : Int32).toNatClampNeg (104 + 1)) 106)) 49 (27 : Int32).toNatClampNeg (106 + 1))
def t_X5_6 (σ : sa_St) : sa_St := (sa_upR (t_X0 114 115 (sa_nw (sa_upR (t_X0 112 113 (sa_nw (sa_upR (t_X0 110 111 (sa_nw (sa_upR (t_X0 108 109 (sa_nw (t_X5_5 σ) 108)) 49 (28 : Int32).toNatClampNeg (108 + 1)) 110)) 49 (29 : Int32).toNatClampNeg (110 + 1)) 112)) 49 (30 : Int32).toNatClampNeg (112 + 1)) 114)) 49 (31 : Int32).toNatClampNeg (114 + 1))
def t_X5_7 (σ : sa_St) : sa_St := (sa_upR (t_X0 122 123 (sa_nw (sa_upR (t_X0 120 121 (sa_nw (sa_upR (t_X0 118 119 (sa_nw (sa_upR (t_X0 116 117 (sa_nw (t_X5_6 σ) 116)) 49 (32 : Int32).toNatClampNeg (116 + 1)) 118)) 49 (33 : Int32).toNatClampNeg (118 + 1)) 120)) 49 (34 : Int32).toNatClampNeg (120 + 1)) 122)) 49 (35 : Int32).toNatClampNeg (122 + 1))
def t_X5_8 (σ : sa_St) : sa_St := (sa_upR (t_X0 130 131 (sa_nw (sa_upR (t_X0 128 129 (sa_nw (sa_upR (t_X0 126 127 (sa_nw (sa_upR (t_X0 124 125 (sa_nw (t_X5_7 σ) 124)) 49 (36 : Int32).toNatClampNeg (124 + 1)) 126)) 49 (37 : Int32).toNatClampNeg (126 + 1)) 128)) 49 (38 : Int32).toNatClampNeg (128 + 1)) 130)) 49 (39 : Int32).toNatClampNeg (130 + 1))
def t_X5 (σ : sa_St) : sa_St := (sa_upR (t_X0 132 133 (sa_nw (t_X5_8 σ) 132)) 49 (40 : Int32).toNatClampNeg (132 + 1))
set_option maxHeartbeats 4000000 in
set_option maxRecDepth 20000 in
theorem bc_X5 {p : Program} {l : Launch} {e : Env} {s : State} {m : MethodId} {args : Array Value} {below : List Frame} {meth : Method} {c : Code} {D : va_G} {ad : Nat → Nat} {cA : FieldType → ClassId} {A : Nat → Prop} (σ : sa_St) (had : ∀ i, i < sa_all → ad (i + 1) = ad i + 1) (C : sa_C p s m args meth c cX5_init RX5 "<init>" 2 none D ad cA A) : sa_Sc p l e s m args below meth c 2 2 D ad cA A 49 85 none (t_X5 σ) 49 σ 0 [(0, .ref (ad 48))] [] := by
  unfold t_X5
  refine sc_aload_n C d_X5_init_0 rfl 0 rfl ?_
  refine sc_objInit C q280 q145 q146 (by decide) (Nat.le_of_ble_eq_true rfl) d_X5_init_1 ?_
  refine sc_aload_n C d_X5_init_4 rfl 0 rfl ?_
  refine sc_bipush (v := 41) C d_X5_init_5 (by decide) ?_
  refine sc_anew_Camp C q281 rfl (by decide) (by decide) (by decide) (by decide) (by decide) (had _ (sa_lt (k := .inr (.object "SaltArmy$Camp", 41)) rfl)) d_X5_init_7 ?_
  refine sc_N (N' := 50) rfl ?_
  refine sc_putR (v := 49) C fc_X5_13 rfl rfl rfl (by decide) d_X5_init_10 ?_
  refine sc_aload_n C d_X5_init_13 rfl 0 rfl ?_
  refine sc_new C cd_X0 q281 rfl (by decide) (by decide) (had _ (sa_lt (k := .inl 0) rfl)) d_X5_init_14 ?_
  refine sc_N (N' := 51) rfl ?_
  refine sc_dup C d_X5_init_17 rfl ?_
  refine sc_invN C had (kc_X0 50 51 _ (by decide) (by rfl) (by rfl)) q261 ds_X0_init q121 rfl q260 (by decide) rfl rfl rfl (Nat.le_of_ble_eq_true rfl) (by decide) (by decide) (by decide) (by decide) d_X5_init_18 ?_
  refine sc_N (N' := 52) rfl ?_
  refine sc_putR (v := 50) C fc_X5_18 rfl rfl rfl (by decide) d_X5_init_21 ?_
  refine sc_iconst (v := 0) C d_X5_init_24 (by decide) ?_
  refine sc_istore_n (lv' := [(1, .int 0), (0, .ref (ad 48))]) C d_X5_init_25 rfl (by decide) rfl ?_
  refine sc_iload_n C d_X5_init_26 rfl 0 rfl ?_
  refine sc_bipush (v := 41) C d_X5_init_27 (by decide) ?_
  refine sc_ge_f (tgt := 51) C (by decide) d_X5_init_29 (by decide) ?_
  refine sc_aload_n C d_X5_init_32 rfl 1 rfl ?_
  refine sc_getR (v := 49) C fd_X5_13 rfl rfl (by decide) rfl d_X5_init_33 ?_
  refine sc_iload_n C d_X5_init_36 rfl 0 rfl ?_
  refine sc_new C cd_X0 q281 rfl (by decide) (by decide) (had _ (sa_lt (k := .inl 0) rfl)) d_X5_init_37 ?_
  refine sc_N (N' := 53) rfl ?_
  refine sc_dup C d_X5_init_40 rfl ?_
  refine sc_invN C had (kc_X0 52 53 _ (by decide) (by rfl) (by rfl)) q261 ds_X0_init q121 rfl q260 (by decide) rfl rfl rfl (Nat.le_of_ble_eq_true rfl) (by decide) (by decide) (by decide) (by decide) d_X5_init_41 ?_
  refine sc_N (N' := 54) rfl ?_
  refine sc_aast_Camp (n := 41) C rfl (by decide) (by decide) rfl (by decide) d_X5_init_44 ?_
  refine sc_iinc (v := 1) (lv' := [(1, .int 1), (0, .ref (ad 48))]) C d_X5_init_45 0 rfl (by decide) (by decide) rfl ?_
  refine sc_goto (tgt := 26) C d_X5_init_48 (by decide) ?_
  refine sc_iload_n C d_X5_init_26 rfl 0 rfl ?_
  refine sc_bipush (v := 41) C d_X5_init_27 (by decide) ?_
  refine sc_ge_f (tgt := 51) C (by decide) d_X5_init_29 (by decide) ?_
  refine sc_aload_n C d_X5_init_32 rfl 1 rfl ?_
  refine sc_getR (v := 49) C fd_X5_13 rfl rfl (by decide) rfl d_X5_init_33 ?_
  refine sc_iload_n C d_X5_init_36 rfl 0 rfl ?_
  refine sc_new C cd_X0 q281 rfl (by decide) (by decide) (had _ (sa_lt (k := .inl 0) rfl)) d_X5_init_37 ?_
  refine sc_N (N' := 55) rfl ?_
  refine sc_dup C d_X5_init_40 rfl ?_
  refine sc_invN C had (kc_X0 54 55 _ (by decide) (by rfl) (by rfl)) q261 ds_X0_init q121 rfl q260 (by decide) rfl rfl rfl (Nat.le_of_ble_eq_true rfl) (by decide) (by decide) (by decide) (by decide) d_X5_init_41 ?_
  refine sc_N (N' := 56) rfl ?_
  refine sc_aast_Camp (n := 41) C rfl (by decide) (by decide) rfl (by decide) d_X5_init_44 ?_
  refine sc_iinc (v := 2) (lv' := [(1, .int 2), (0, .ref (ad 48))]) C d_X5_init_45 0 rfl (by decide) (by decide) rfl ?_
  refine sc_goto (tgt := 26) C d_X5_init_48 (by decide) ?_
  refine sc_iload_n C d_X5_init_26 rfl 0 rfl ?_
  refine sc_bipush (v := 41) C d_X5_init_27 (by decide) ?_
  refine sc_ge_f (tgt := 51) C (by decide) d_X5_init_29 (by decide) ?_
  refine sc_aload_n C d_X5_init_32 rfl 1 rfl ?_
  refine sc_getR (v := 49) C fd_X5_13 rfl rfl (by decide) rfl d_X5_init_33 ?_
  refine sc_iload_n C d_X5_init_36 rfl 0 rfl ?_
  refine sc_new C cd_X0 q281 rfl (by decide) (by decide) (had _ (sa_lt (k := .inl 0) rfl)) d_X5_init_37 ?_
  refine sc_N (N' := 57) rfl ?_
  refine sc_dup C d_X5_init_40 rfl ?_
  refine sc_invN C had (kc_X0 56 57 _ (by decide) (by rfl) (by rfl)) q261 ds_X0_init q121 rfl q260 (by decide) rfl rfl rfl (Nat.le_of_ble_eq_true rfl) (by decide) (by decide) (by decide) (by decide) d_X5_init_41 ?_
  refine sc_N (N' := 58) rfl ?_
  refine sc_aast_Camp (n := 41) C rfl (by decide) (by decide) rfl (by decide) d_X5_init_44 ?_
  refine sc_iinc (v := 3) (lv' := [(1, .int 3), (0, .ref (ad 48))]) C d_X5_init_45 0 rfl (by decide) (by decide) rfl ?_
  refine sc_goto (tgt := 26) C d_X5_init_48 (by decide) ?_
  refine sc_iload_n C d_X5_init_26 rfl 0 rfl ?_
  refine sc_bipush (v := 41) C d_X5_init_27 (by decide) ?_
  refine sc_ge_f (tgt := 51) C (by decide) d_X5_init_29 (by decide) ?_
  refine sc_aload_n C d_X5_init_32 rfl 1 rfl ?_
  refine sc_getR (v := 49) C fd_X5_13 rfl rfl (by decide) rfl d_X5_init_33 ?_
  refine sc_iload_n C d_X5_init_36 rfl 0 rfl ?_
  refine sc_new C cd_X0 q281 rfl (by decide) (by decide) (had _ (sa_lt (k := .inl 0) rfl)) d_X5_init_37 ?_
  refine sc_N (N' := 59) rfl ?_
  refine sc_dup C d_X5_init_40 rfl ?_
  refine sc_invN C had (kc_X0 58 59 _ (by decide) (by rfl) (by rfl)) q261 ds_X0_init q121 rfl q260 (by decide) rfl rfl rfl (Nat.le_of_ble_eq_true rfl) (by decide) (by decide) (by decide) (by decide) d_X5_init_41 ?_
  refine sc_N (N' := 60) rfl ?_
  refine sc_aast_Camp (n := 41) C rfl (by decide) (by decide) rfl (by decide) d_X5_init_44 ?_
  refine sc_st (σ' := t_X5_0 σ) rfl ?_
  refine sc_iinc (v := 4) (lv' := [(1, .int 4), (0, .ref (ad 48))]) C d_X5_init_45 0 rfl (by decide) (by decide) rfl ?_
  refine sc_goto (tgt := 26) C d_X5_init_48 (by decide) ?_
  refine sc_iload_n C d_X5_init_26 rfl 0 rfl ?_
  refine sc_bipush (v := 41) C d_X5_init_27 (by decide) ?_
  refine sc_ge_f (tgt := 51) C (by decide) d_X5_init_29 (by decide) ?_
  refine sc_aload_n C d_X5_init_32 rfl 1 rfl ?_
  refine sc_getR (v := 49) C fd_X5_13 rfl rfl (by decide) rfl d_X5_init_33 ?_
  refine sc_iload_n C d_X5_init_36 rfl 0 rfl ?_
  refine sc_new C cd_X0 q281 rfl (by decide) (by decide) (had _ (sa_lt (k := .inl 0) rfl)) d_X5_init_37 ?_
  refine sc_N (N' := 61) rfl ?_
  refine sc_dup C d_X5_init_40 rfl ?_
  refine sc_invN C had (kc_X0 60 61 _ (by decide) (by rfl) (by rfl)) q261 ds_X0_init q121 rfl q260 (by decide) rfl rfl rfl (Nat.le_of_ble_eq_true rfl) (by decide) (by decide) (by decide) (by decide) d_X5_init_41 ?_
  refine sc_N (N' := 62) rfl ?_
  refine sc_aast_Camp (n := 41) C rfl (by decide) (by decide) rfl (by decide) d_X5_init_44 ?_
  refine sc_iinc (v := 5) (lv' := [(1, .int 5), (0, .ref (ad 48))]) C d_X5_init_45 0 rfl (by decide) (by decide) rfl ?_
  refine sc_goto (tgt := 26) C d_X5_init_48 (by decide) ?_
  refine sc_iload_n C d_X5_init_26 rfl 0 rfl ?_
  refine sc_bipush (v := 41) C d_X5_init_27 (by decide) ?_
  refine sc_ge_f (tgt := 51) C (by decide) d_X5_init_29 (by decide) ?_
  refine sc_aload_n C d_X5_init_32 rfl 1 rfl ?_
  refine sc_getR (v := 49) C fd_X5_13 rfl rfl (by decide) rfl d_X5_init_33 ?_
  refine sc_iload_n C d_X5_init_36 rfl 0 rfl ?_
  refine sc_new C cd_X0 q281 rfl (by decide) (by decide) (had _ (sa_lt (k := .inl 0) rfl)) d_X5_init_37 ?_
  refine sc_N (N' := 63) rfl ?_
  refine sc_dup C d_X5_init_40 rfl ?_
  refine sc_invN C had (kc_X0 62 63 _ (by decide) (by rfl) (by rfl)) q261 ds_X0_init q121 rfl q260 (by decide) rfl rfl rfl (Nat.le_of_ble_eq_true rfl) (by decide) (by decide) (by decide) (by decide) d_X5_init_41 ?_
  refine sc_N (N' := 64) rfl ?_
  refine sc_aast_Camp (n := 41) C rfl (by decide) (by decide) rfl (by decide) d_X5_init_44 ?_
  refine sc_iinc (v := 6) (lv' := [(1, .int 6), (0, .ref (ad 48))]) C d_X5_init_45 0 rfl (by decide) (by decide) rfl ?_
  refine sc_goto (tgt := 26) C d_X5_init_48 (by decide) ?_
  refine sc_iload_n C d_X5_init_26 rfl 0 rfl ?_
  refine sc_bipush (v := 41) C d_X5_init_27 (by decide) ?_
  refine sc_ge_f (tgt := 51) C (by decide) d_X5_init_29 (by decide) ?_
  refine sc_aload_n C d_X5_init_32 rfl 1 rfl ?_
  refine sc_getR (v := 49) C fd_X5_13 rfl rfl (by decide) rfl d_X5_init_33 ?_
  refine sc_iload_n C d_X5_init_36 rfl 0 rfl ?_
  refine sc_new C cd_X0 q281 rfl (by decide) (by decide) (had _ (sa_lt (k := .inl 0) rfl)) d_X5_init_37 ?_
  refine sc_N (N' := 65) rfl ?_
  refine sc_dup C d_X5_init_40 rfl ?_
  refine sc_invN C had (kc_X0 64 65 _ (by decide) (by rfl) (by rfl)) q261 ds_X0_init q121 rfl q260 (by decide) rfl rfl rfl (Nat.le_of_ble_eq_true rfl) (by decide) (by decide) (by decide) (by decide) d_X5_init_41 ?_
  refine sc_N (N' := 66) rfl ?_
  refine sc_aast_Camp (n := 41) C rfl (by decide) (by decide) rfl (by decide) d_X5_init_44 ?_
  refine sc_iinc (v := 7) (lv' := [(1, .int 7), (0, .ref (ad 48))]) C d_X5_init_45 0 rfl (by decide) (by decide) rfl ?_
  refine sc_goto (tgt := 26) C d_X5_init_48 (by decide) ?_
  refine sc_iload_n C d_X5_init_26 rfl 0 rfl ?_
  refine sc_bipush (v := 41) C d_X5_init_27 (by decide) ?_
  refine sc_ge_f (tgt := 51) C (by decide) d_X5_init_29 (by decide) ?_
  refine sc_aload_n C d_X5_init_32 rfl 1 rfl ?_
  refine sc_getR (v := 49) C fd_X5_13 rfl rfl (by decide) rfl d_X5_init_33 ?_
  refine sc_iload_n C d_X5_init_36 rfl 0 rfl ?_
  refine sc_new C cd_X0 q281 rfl (by decide) (by decide) (had _ (sa_lt (k := .inl 0) rfl)) d_X5_init_37 ?_
  refine sc_N (N' := 67) rfl ?_
  refine sc_dup C d_X5_init_40 rfl ?_
  refine sc_invN C had (kc_X0 66 67 _ (by decide) (by rfl) (by rfl)) q261 ds_X0_init q121 rfl q260 (by decide) rfl rfl rfl (Nat.le_of_ble_eq_true rfl) (by decide) (by decide) (by decide) (by decide) d_X5_init_41 ?_
  refine sc_N (N' := 68) rfl ?_
  refine sc_aast_Camp (n := 41) C rfl (by decide) (by decide) rfl (by decide) d_X5_init_44 ?_
  refine sc_iinc (v := 8) (lv' := [(1, .int 8), (0, .ref (ad 48))]) C d_X5_init_45 0 rfl (by decide) (by decide) rfl ?_
  refine sc_goto (tgt := 26) C d_X5_init_48 (by decide) ?_
  refine sc_iload_n C d_X5_init_26 rfl 0 rfl ?_
  refine sc_bipush (v := 41) C d_X5_init_27 (by decide) ?_
  refine sc_ge_f (tgt := 51) C (by decide) d_X5_init_29 (by decide) ?_
  refine sc_aload_n C d_X5_init_32 rfl 1 rfl ?_
  refine sc_getR (v := 49) C fd_X5_13 rfl rfl (by decide) rfl d_X5_init_33 ?_
  refine sc_iload_n C d_X5_init_36 rfl 0 rfl ?_
  refine sc_new C cd_X0 q281 rfl (by decide) (by decide) (had _ (sa_lt (k := .inl 0) rfl)) d_X5_init_37 ?_
  refine sc_N (N' := 69) rfl ?_
  refine sc_dup C d_X5_init_40 rfl ?_
  refine sc_invN C had (kc_X0 68 69 _ (by decide) (by rfl) (by rfl)) q261 ds_X0_init q121 rfl q260 (by decide) rfl rfl rfl (Nat.le_of_ble_eq_true rfl) (by decide) (by decide) (by decide) (by decide) d_X5_init_41 ?_
  refine sc_N (N' := 70) rfl ?_
  refine sc_aast_Camp (n := 41) C rfl (by decide) (by decide) rfl (by decide) d_X5_init_44 ?_
  refine sc_st (σ' := t_X5_1 σ) rfl ?_
  refine sc_iinc (v := 9) (lv' := [(1, .int 9), (0, .ref (ad 48))]) C d_X5_init_45 0 rfl (by decide) (by decide) rfl ?_
  refine sc_goto (tgt := 26) C d_X5_init_48 (by decide) ?_
  refine sc_iload_n C d_X5_init_26 rfl 0 rfl ?_
  refine sc_bipush (v := 41) C d_X5_init_27 (by decide) ?_
  refine sc_ge_f (tgt := 51) C (by decide) d_X5_init_29 (by decide) ?_
  refine sc_aload_n C d_X5_init_32 rfl 1 rfl ?_
  refine sc_getR (v := 49) C fd_X5_13 rfl rfl (by decide) rfl d_X5_init_33 ?_
  refine sc_iload_n C d_X5_init_36 rfl 0 rfl ?_
  refine sc_new C cd_X0 q281 rfl (by decide) (by decide) (had _ (sa_lt (k := .inl 0) rfl)) d_X5_init_37 ?_
  refine sc_N (N' := 71) rfl ?_
  refine sc_dup C d_X5_init_40 rfl ?_
  refine sc_invN C had (kc_X0 70 71 _ (by decide) (by rfl) (by rfl)) q261 ds_X0_init q121 rfl q260 (by decide) rfl rfl rfl (Nat.le_of_ble_eq_true rfl) (by decide) (by decide) (by decide) (by decide) d_X5_init_41 ?_
  refine sc_N (N' := 72) rfl ?_
  refine sc_aast_Camp (n := 41) C rfl (by decide) (by decide) rfl (by decide) d_X5_init_44 ?_
  refine sc_iinc (v := 10) (lv' := [(1, .int 10), (0, .ref (ad 48))]) C d_X5_init_45 0 rfl (by decide) (by decide) rfl ?_
  refine sc_goto (tgt := 26) C d_X5_init_48 (by decide) ?_
  refine sc_iload_n C d_X5_init_26 rfl 0 rfl ?_
  refine sc_bipush (v := 41) C d_X5_init_27 (by decide) ?_
  refine sc_ge_f (tgt := 51) C (by decide) d_X5_init_29 (by decide) ?_
  refine sc_aload_n C d_X5_init_32 rfl 1 rfl ?_
  refine sc_getR (v := 49) C fd_X5_13 rfl rfl (by decide) rfl d_X5_init_33 ?_
  refine sc_iload_n C d_X5_init_36 rfl 0 rfl ?_
  refine sc_new C cd_X0 q281 rfl (by decide) (by decide) (had _ (sa_lt (k := .inl 0) rfl)) d_X5_init_37 ?_
  refine sc_N (N' := 73) rfl ?_
  refine sc_dup C d_X5_init_40 rfl ?_
  refine sc_invN C had (kc_X0 72 73 _ (by decide) (by rfl) (by rfl)) q261 ds_X0_init q121 rfl q260 (by decide) rfl rfl rfl (Nat.le_of_ble_eq_true rfl) (by decide) (by decide) (by decide) (by decide) d_X5_init_41 ?_
  refine sc_N (N' := 74) rfl ?_
  refine sc_aast_Camp (n := 41) C rfl (by decide) (by decide) rfl (by decide) d_X5_init_44 ?_
  refine sc_iinc (v := 11) (lv' := [(1, .int 11), (0, .ref (ad 48))]) C d_X5_init_45 0 rfl (by decide) (by decide) rfl ?_
  refine sc_goto (tgt := 26) C d_X5_init_48 (by decide) ?_
  refine sc_iload_n C d_X5_init_26 rfl 0 rfl ?_
  refine sc_bipush (v := 41) C d_X5_init_27 (by decide) ?_
  refine sc_ge_f (tgt := 51) C (by decide) d_X5_init_29 (by decide) ?_
  refine sc_aload_n C d_X5_init_32 rfl 1 rfl ?_
  refine sc_getR (v := 49) C fd_X5_13 rfl rfl (by decide) rfl d_X5_init_33 ?_
  refine sc_iload_n C d_X5_init_36 rfl 0 rfl ?_
  refine sc_new C cd_X0 q281 rfl (by decide) (by decide) (had _ (sa_lt (k := .inl 0) rfl)) d_X5_init_37 ?_
  refine sc_N (N' := 75) rfl ?_
  refine sc_dup C d_X5_init_40 rfl ?_
  refine sc_invN C had (kc_X0 74 75 _ (by decide) (by rfl) (by rfl)) q261 ds_X0_init q121 rfl q260 (by decide) rfl rfl rfl (Nat.le_of_ble_eq_true rfl) (by decide) (by decide) (by decide) (by decide) d_X5_init_41 ?_
  refine sc_N (N' := 76) rfl ?_
  refine sc_aast_Camp (n := 41) C rfl (by decide) (by decide) rfl (by decide) d_X5_init_44 ?_
  refine sc_iinc (v := 12) (lv' := [(1, .int 12), (0, .ref (ad 48))]) C d_X5_init_45 0 rfl (by decide) (by decide) rfl ?_
  refine sc_goto (tgt := 26) C d_X5_init_48 (by decide) ?_
  refine sc_iload_n C d_X5_init_26 rfl 0 rfl ?_
  refine sc_bipush (v := 41) C d_X5_init_27 (by decide) ?_
  refine sc_ge_f (tgt := 51) C (by decide) d_X5_init_29 (by decide) ?_
  refine sc_aload_n C d_X5_init_32 rfl 1 rfl ?_
  refine sc_getR (v := 49) C fd_X5_13 rfl rfl (by decide) rfl d_X5_init_33 ?_
  refine sc_iload_n C d_X5_init_36 rfl 0 rfl ?_
  refine sc_new C cd_X0 q281 rfl (by decide) (by decide) (had _ (sa_lt (k := .inl 0) rfl)) d_X5_init_37 ?_
  refine sc_N (N' := 77) rfl ?_
  refine sc_dup C d_X5_init_40 rfl ?_
  refine sc_invN C had (kc_X0 76 77 _ (by decide) (by rfl) (by rfl)) q261 ds_X0_init q121 rfl q260 (by decide) rfl rfl rfl (Nat.le_of_ble_eq_true rfl) (by decide) (by decide) (by decide) (by decide) d_X5_init_41 ?_
  refine sc_N (N' := 78) rfl ?_
  refine sc_aast_Camp (n := 41) C rfl (by decide) (by decide) rfl (by decide) d_X5_init_44 ?_
  refine sc_iinc (v := 13) (lv' := [(1, .int 13), (0, .ref (ad 48))]) C d_X5_init_45 0 rfl (by decide) (by decide) rfl ?_
  refine sc_goto (tgt := 26) C d_X5_init_48 (by decide) ?_
  refine sc_iload_n C d_X5_init_26 rfl 0 rfl ?_
  refine sc_bipush (v := 41) C d_X5_init_27 (by decide) ?_
  refine sc_ge_f (tgt := 51) C (by decide) d_X5_init_29 (by decide) ?_
  refine sc_aload_n C d_X5_init_32 rfl 1 rfl ?_
  refine sc_getR (v := 49) C fd_X5_13 rfl rfl (by decide) rfl d_X5_init_33 ?_
  refine sc_iload_n C d_X5_init_36 rfl 0 rfl ?_
  refine sc_new C cd_X0 q281 rfl (by decide) (by decide) (had _ (sa_lt (k := .inl 0) rfl)) d_X5_init_37 ?_
  refine sc_N (N' := 79) rfl ?_
  refine sc_dup C d_X5_init_40 rfl ?_
  refine sc_invN C had (kc_X0 78 79 _ (by decide) (by rfl) (by rfl)) q261 ds_X0_init q121 rfl q260 (by decide) rfl rfl rfl (Nat.le_of_ble_eq_true rfl) (by decide) (by decide) (by decide) (by decide) d_X5_init_41 ?_
  refine sc_N (N' := 80) rfl ?_
  refine sc_aast_Camp (n := 41) C rfl (by decide) (by decide) rfl (by decide) d_X5_init_44 ?_
  refine sc_st (σ' := t_X5_2 σ) rfl ?_
  refine sc_iinc (v := 14) (lv' := [(1, .int 14), (0, .ref (ad 48))]) C d_X5_init_45 0 rfl (by decide) (by decide) rfl ?_
  refine sc_goto (tgt := 26) C d_X5_init_48 (by decide) ?_
  refine sc_iload_n C d_X5_init_26 rfl 0 rfl ?_
  refine sc_bipush (v := 41) C d_X5_init_27 (by decide) ?_
  refine sc_ge_f (tgt := 51) C (by decide) d_X5_init_29 (by decide) ?_
  refine sc_aload_n C d_X5_init_32 rfl 1 rfl ?_
  refine sc_getR (v := 49) C fd_X5_13 rfl rfl (by decide) rfl d_X5_init_33 ?_
  refine sc_iload_n C d_X5_init_36 rfl 0 rfl ?_
  refine sc_new C cd_X0 q281 rfl (by decide) (by decide) (had _ (sa_lt (k := .inl 0) rfl)) d_X5_init_37 ?_
  refine sc_N (N' := 81) rfl ?_
  refine sc_dup C d_X5_init_40 rfl ?_
  refine sc_invN C had (kc_X0 80 81 _ (by decide) (by rfl) (by rfl)) q261 ds_X0_init q121 rfl q260 (by decide) rfl rfl rfl (Nat.le_of_ble_eq_true rfl) (by decide) (by decide) (by decide) (by decide) d_X5_init_41 ?_
  refine sc_N (N' := 82) rfl ?_
  refine sc_aast_Camp (n := 41) C rfl (by decide) (by decide) rfl (by decide) d_X5_init_44 ?_
  refine sc_iinc (v := 15) (lv' := [(1, .int 15), (0, .ref (ad 48))]) C d_X5_init_45 0 rfl (by decide) (by decide) rfl ?_
  refine sc_goto (tgt := 26) C d_X5_init_48 (by decide) ?_
  refine sc_iload_n C d_X5_init_26 rfl 0 rfl ?_
  refine sc_bipush (v := 41) C d_X5_init_27 (by decide) ?_
  refine sc_ge_f (tgt := 51) C (by decide) d_X5_init_29 (by decide) ?_
  refine sc_aload_n C d_X5_init_32 rfl 1 rfl ?_
  refine sc_getR (v := 49) C fd_X5_13 rfl rfl (by decide) rfl d_X5_init_33 ?_
  refine sc_iload_n C d_X5_init_36 rfl 0 rfl ?_
  refine sc_new C cd_X0 q281 rfl (by decide) (by decide) (had _ (sa_lt (k := .inl 0) rfl)) d_X5_init_37 ?_
  refine sc_N (N' := 83) rfl ?_
  refine sc_dup C d_X5_init_40 rfl ?_
  refine sc_invN C had (kc_X0 82 83 _ (by decide) (by rfl) (by rfl)) q261 ds_X0_init q121 rfl q260 (by decide) rfl rfl rfl (Nat.le_of_ble_eq_true rfl) (by decide) (by decide) (by decide) (by decide) d_X5_init_41 ?_
  refine sc_N (N' := 84) rfl ?_
  refine sc_aast_Camp (n := 41) C rfl (by decide) (by decide) rfl (by decide) d_X5_init_44 ?_
  refine sc_iinc (v := 16) (lv' := [(1, .int 16), (0, .ref (ad 48))]) C d_X5_init_45 0 rfl (by decide) (by decide) rfl ?_
  refine sc_goto (tgt := 26) C d_X5_init_48 (by decide) ?_
  refine sc_iload_n C d_X5_init_26 rfl 0 rfl ?_
  refine sc_bipush (v := 41) C d_X5_init_27 (by decide) ?_
  refine sc_ge_f (tgt := 51) C (by decide) d_X5_init_29 (by decide) ?_
  refine sc_aload_n C d_X5_init_32 rfl 1 rfl ?_
  refine sc_getR (v := 49) C fd_X5_13 rfl rfl (by decide) rfl d_X5_init_33 ?_
  refine sc_iload_n C d_X5_init_36 rfl 0 rfl ?_
  refine sc_new C cd_X0 q281 rfl (by decide) (by decide) (had _ (sa_lt (k := .inl 0) rfl)) d_X5_init_37 ?_
  refine sc_N (N' := 85) rfl ?_
  refine sc_dup C d_X5_init_40 rfl ?_
  refine sc_invN C had (kc_X0 84 85 _ (by decide) (by rfl) (by rfl)) q261 ds_X0_init q121 rfl q260 (by decide) rfl rfl rfl (Nat.le_of_ble_eq_true rfl) (by decide) (by decide) (by decide) (by decide) d_X5_init_41 ?_
  refine sc_N (N' := 86) rfl ?_
  refine sc_aast_Camp (n := 41) C rfl (by decide) (by decide) rfl (by decide) d_X5_init_44 ?_
  refine sc_iinc (v := 17) (lv' := [(1, .int 17), (0, .ref (ad 48))]) C d_X5_init_45 0 rfl (by decide) (by decide) rfl ?_
  refine sc_goto (tgt := 26) C d_X5_init_48 (by decide) ?_
  refine sc_iload_n C d_X5_init_26 rfl 0 rfl ?_
  refine sc_bipush (v := 41) C d_X5_init_27 (by decide) ?_
  refine sc_ge_f (tgt := 51) C (by decide) d_X5_init_29 (by decide) ?_
  refine sc_aload_n C d_X5_init_32 rfl 1 rfl ?_
  refine sc_getR (v := 49) C fd_X5_13 rfl rfl (by decide) rfl d_X5_init_33 ?_
  refine sc_iload_n C d_X5_init_36 rfl 0 rfl ?_
  refine sc_new C cd_X0 q281 rfl (by decide) (by decide) (had _ (sa_lt (k := .inl 0) rfl)) d_X5_init_37 ?_
  refine sc_N (N' := 87) rfl ?_
  refine sc_dup C d_X5_init_40 rfl ?_
  refine sc_invN C had (kc_X0 86 87 _ (by decide) (by rfl) (by rfl)) q261 ds_X0_init q121 rfl q260 (by decide) rfl rfl rfl (Nat.le_of_ble_eq_true rfl) (by decide) (by decide) (by decide) (by decide) d_X5_init_41 ?_
  refine sc_N (N' := 88) rfl ?_
  refine sc_aast_Camp (n := 41) C rfl (by decide) (by decide) rfl (by decide) d_X5_init_44 ?_
  refine sc_iinc (v := 18) (lv' := [(1, .int 18), (0, .ref (ad 48))]) C d_X5_init_45 0 rfl (by decide) (by decide) rfl ?_
  refine sc_goto (tgt := 26) C d_X5_init_48 (by decide) ?_
  refine sc_iload_n C d_X5_init_26 rfl 0 rfl ?_
  refine sc_bipush (v := 41) C d_X5_init_27 (by decide) ?_
  refine sc_ge_f (tgt := 51) C (by decide) d_X5_init_29 (by decide) ?_
  refine sc_aload_n C d_X5_init_32 rfl 1 rfl ?_
  refine sc_getR (v := 49) C fd_X5_13 rfl rfl (by decide) rfl d_X5_init_33 ?_
  refine sc_iload_n C d_X5_init_36 rfl 0 rfl ?_
  refine sc_new C cd_X0 q281 rfl (by decide) (by decide) (had _ (sa_lt (k := .inl 0) rfl)) d_X5_init_37 ?_
  refine sc_N (N' := 89) rfl ?_
  refine sc_dup C d_X5_init_40 rfl ?_
  refine sc_invN C had (kc_X0 88 89 _ (by decide) (by rfl) (by rfl)) q261 ds_X0_init q121 rfl q260 (by decide) rfl rfl rfl (Nat.le_of_ble_eq_true rfl) (by decide) (by decide) (by decide) (by decide) d_X5_init_41 ?_
  refine sc_N (N' := 90) rfl ?_
  refine sc_aast_Camp (n := 41) C rfl (by decide) (by decide) rfl (by decide) d_X5_init_44 ?_
  refine sc_st (σ' := t_X5_3 σ) rfl ?_
  refine sc_iinc (v := 19) (lv' := [(1, .int 19), (0, .ref (ad 48))]) C d_X5_init_45 0 rfl (by decide) (by decide) rfl ?_
  refine sc_goto (tgt := 26) C d_X5_init_48 (by decide) ?_
  refine sc_iload_n C d_X5_init_26 rfl 0 rfl ?_
  refine sc_bipush (v := 41) C d_X5_init_27 (by decide) ?_
  refine sc_ge_f (tgt := 51) C (by decide) d_X5_init_29 (by decide) ?_
  refine sc_aload_n C d_X5_init_32 rfl 1 rfl ?_
  refine sc_getR (v := 49) C fd_X5_13 rfl rfl (by decide) rfl d_X5_init_33 ?_
  refine sc_iload_n C d_X5_init_36 rfl 0 rfl ?_
  refine sc_new C cd_X0 q281 rfl (by decide) (by decide) (had _ (sa_lt (k := .inl 0) rfl)) d_X5_init_37 ?_
  refine sc_N (N' := 91) rfl ?_
  refine sc_dup C d_X5_init_40 rfl ?_
  refine sc_invN C had (kc_X0 90 91 _ (by decide) (by rfl) (by rfl)) q261 ds_X0_init q121 rfl q260 (by decide) rfl rfl rfl (Nat.le_of_ble_eq_true rfl) (by decide) (by decide) (by decide) (by decide) d_X5_init_41 ?_
  refine sc_N (N' := 92) rfl ?_
  refine sc_aast_Camp (n := 41) C rfl (by decide) (by decide) rfl (by decide) d_X5_init_44 ?_
  refine sc_iinc (v := 20) (lv' := [(1, .int 20), (0, .ref (ad 48))]) C d_X5_init_45 0 rfl (by decide) (by decide) rfl ?_
  refine sc_goto (tgt := 26) C d_X5_init_48 (by decide) ?_
  refine sc_iload_n C d_X5_init_26 rfl 0 rfl ?_
  refine sc_bipush (v := 41) C d_X5_init_27 (by decide) ?_
  refine sc_ge_f (tgt := 51) C (by decide) d_X5_init_29 (by decide) ?_
  refine sc_aload_n C d_X5_init_32 rfl 1 rfl ?_
  refine sc_getR (v := 49) C fd_X5_13 rfl rfl (by decide) rfl d_X5_init_33 ?_
  refine sc_iload_n C d_X5_init_36 rfl 0 rfl ?_
  refine sc_new C cd_X0 q281 rfl (by decide) (by decide) (had _ (sa_lt (k := .inl 0) rfl)) d_X5_init_37 ?_
  refine sc_N (N' := 93) rfl ?_
  refine sc_dup C d_X5_init_40 rfl ?_
  refine sc_invN C had (kc_X0 92 93 _ (by decide) (by rfl) (by rfl)) q261 ds_X0_init q121 rfl q260 (by decide) rfl rfl rfl (Nat.le_of_ble_eq_true rfl) (by decide) (by decide) (by decide) (by decide) d_X5_init_41 ?_
  refine sc_N (N' := 94) rfl ?_
  refine sc_aast_Camp (n := 41) C rfl (by decide) (by decide) rfl (by decide) d_X5_init_44 ?_
  refine sc_iinc (v := 21) (lv' := [(1, .int 21), (0, .ref (ad 48))]) C d_X5_init_45 0 rfl (by decide) (by decide) rfl ?_
  refine sc_goto (tgt := 26) C d_X5_init_48 (by decide) ?_
  refine sc_iload_n C d_X5_init_26 rfl 0 rfl ?_
  refine sc_bipush (v := 41) C d_X5_init_27 (by decide) ?_
  refine sc_ge_f (tgt := 51) C (by decide) d_X5_init_29 (by decide) ?_
  refine sc_aload_n C d_X5_init_32 rfl 1 rfl ?_
  refine sc_getR (v := 49) C fd_X5_13 rfl rfl (by decide) rfl d_X5_init_33 ?_
  refine sc_iload_n C d_X5_init_36 rfl 0 rfl ?_
  refine sc_new C cd_X0 q281 rfl (by decide) (by decide) (had _ (sa_lt (k := .inl 0) rfl)) d_X5_init_37 ?_
  refine sc_N (N' := 95) rfl ?_
  refine sc_dup C d_X5_init_40 rfl ?_
  refine sc_invN C had (kc_X0 94 95 _ (by decide) (by rfl) (by rfl)) q261 ds_X0_init q121 rfl q260 (by decide) rfl rfl rfl (Nat.le_of_ble_eq_true rfl) (by decide) (by decide) (by decide) (by decide) d_X5_init_41 ?_
  refine sc_N (N' := 96) rfl ?_
  refine sc_aast_Camp (n := 41) C rfl (by decide) (by decide) rfl (by decide) d_X5_init_44 ?_
  refine sc_iinc (v := 22) (lv' := [(1, .int 22), (0, .ref (ad 48))]) C d_X5_init_45 0 rfl (by decide) (by decide) rfl ?_
  refine sc_goto (tgt := 26) C d_X5_init_48 (by decide) ?_
  refine sc_iload_n C d_X5_init_26 rfl 0 rfl ?_
  refine sc_bipush (v := 41) C d_X5_init_27 (by decide) ?_
  refine sc_ge_f (tgt := 51) C (by decide) d_X5_init_29 (by decide) ?_
  refine sc_aload_n C d_X5_init_32 rfl 1 rfl ?_
  refine sc_getR (v := 49) C fd_X5_13 rfl rfl (by decide) rfl d_X5_init_33 ?_
  refine sc_iload_n C d_X5_init_36 rfl 0 rfl ?_
  refine sc_new C cd_X0 q281 rfl (by decide) (by decide) (had _ (sa_lt (k := .inl 0) rfl)) d_X5_init_37 ?_
  refine sc_N (N' := 97) rfl ?_
  refine sc_dup C d_X5_init_40 rfl ?_
  refine sc_invN C had (kc_X0 96 97 _ (by decide) (by rfl) (by rfl)) q261 ds_X0_init q121 rfl q260 (by decide) rfl rfl rfl (Nat.le_of_ble_eq_true rfl) (by decide) (by decide) (by decide) (by decide) d_X5_init_41 ?_
  refine sc_N (N' := 98) rfl ?_
  refine sc_aast_Camp (n := 41) C rfl (by decide) (by decide) rfl (by decide) d_X5_init_44 ?_
  refine sc_iinc (v := 23) (lv' := [(1, .int 23), (0, .ref (ad 48))]) C d_X5_init_45 0 rfl (by decide) (by decide) rfl ?_
  refine sc_goto (tgt := 26) C d_X5_init_48 (by decide) ?_
  refine sc_iload_n C d_X5_init_26 rfl 0 rfl ?_
  refine sc_bipush (v := 41) C d_X5_init_27 (by decide) ?_
  refine sc_ge_f (tgt := 51) C (by decide) d_X5_init_29 (by decide) ?_
  refine sc_aload_n C d_X5_init_32 rfl 1 rfl ?_
  refine sc_getR (v := 49) C fd_X5_13 rfl rfl (by decide) rfl d_X5_init_33 ?_
  refine sc_iload_n C d_X5_init_36 rfl 0 rfl ?_
  refine sc_new C cd_X0 q281 rfl (by decide) (by decide) (had _ (sa_lt (k := .inl 0) rfl)) d_X5_init_37 ?_
  refine sc_N (N' := 99) rfl ?_
  refine sc_dup C d_X5_init_40 rfl ?_
  refine sc_invN C had (kc_X0 98 99 _ (by decide) (by rfl) (by rfl)) q261 ds_X0_init q121 rfl q260 (by decide) rfl rfl rfl (Nat.le_of_ble_eq_true rfl) (by decide) (by decide) (by decide) (by decide) d_X5_init_41 ?_
  refine sc_N (N' := 100) rfl ?_
  refine sc_aast_Camp (n := 41) C rfl (by decide) (by decide) rfl (by decide) d_X5_init_44 ?_
  refine sc_st (σ' := t_X5_4 σ) rfl ?_
  refine sc_iinc (v := 24) (lv' := [(1, .int 24), (0, .ref (ad 48))]) C d_X5_init_45 0 rfl (by decide) (by decide) rfl ?_
  refine sc_goto (tgt := 26) C d_X5_init_48 (by decide) ?_
  refine sc_iload_n C d_X5_init_26 rfl 0 rfl ?_
  refine sc_bipush (v := 41) C d_X5_init_27 (by decide) ?_
  refine sc_ge_f (tgt := 51) C (by decide) d_X5_init_29 (by decide) ?_
  refine sc_aload_n C d_X5_init_32 rfl 1 rfl ?_
  refine sc_getR (v := 49) C fd_X5_13 rfl rfl (by decide) rfl d_X5_init_33 ?_
  refine sc_iload_n C d_X5_init_36 rfl 0 rfl ?_
  refine sc_new C cd_X0 q281 rfl (by decide) (by decide) (had _ (sa_lt (k := .inl 0) rfl)) d_X5_init_37 ?_
  refine sc_N (N' := 101) rfl ?_
  refine sc_dup C d_X5_init_40 rfl ?_
  refine sc_invN C had (kc_X0 100 101 _ (by decide) (by rfl) (by rfl)) q261 ds_X0_init q121 rfl q260 (by decide) rfl rfl rfl (Nat.le_of_ble_eq_true rfl) (by decide) (by decide) (by decide) (by decide) d_X5_init_41 ?_
  refine sc_N (N' := 102) rfl ?_
  refine sc_aast_Camp (n := 41) C rfl (by decide) (by decide) rfl (by decide) d_X5_init_44 ?_
  refine sc_iinc (v := 25) (lv' := [(1, .int 25), (0, .ref (ad 48))]) C d_X5_init_45 0 rfl (by decide) (by decide) rfl ?_
  refine sc_goto (tgt := 26) C d_X5_init_48 (by decide) ?_
  refine sc_iload_n C d_X5_init_26 rfl 0 rfl ?_
  refine sc_bipush (v := 41) C d_X5_init_27 (by decide) ?_
  refine sc_ge_f (tgt := 51) C (by decide) d_X5_init_29 (by decide) ?_
  refine sc_aload_n C d_X5_init_32 rfl 1 rfl ?_
  refine sc_getR (v := 49) C fd_X5_13 rfl rfl (by decide) rfl d_X5_init_33 ?_
  refine sc_iload_n C d_X5_init_36 rfl 0 rfl ?_
  refine sc_new C cd_X0 q281 rfl (by decide) (by decide) (had _ (sa_lt (k := .inl 0) rfl)) d_X5_init_37 ?_
  refine sc_N (N' := 103) rfl ?_
  refine sc_dup C d_X5_init_40 rfl ?_
  refine sc_invN C had (kc_X0 102 103 _ (by decide) (by rfl) (by rfl)) q261 ds_X0_init q121 rfl q260 (by decide) rfl rfl rfl (Nat.le_of_ble_eq_true rfl) (by decide) (by decide) (by decide) (by decide) d_X5_init_41 ?_
  refine sc_N (N' := 104) rfl ?_
  refine sc_aast_Camp (n := 41) C rfl (by decide) (by decide) rfl (by decide) d_X5_init_44 ?_
  refine sc_iinc (v := 26) (lv' := [(1, .int 26), (0, .ref (ad 48))]) C d_X5_init_45 0 rfl (by decide) (by decide) rfl ?_
  refine sc_goto (tgt := 26) C d_X5_init_48 (by decide) ?_
  refine sc_iload_n C d_X5_init_26 rfl 0 rfl ?_
  refine sc_bipush (v := 41) C d_X5_init_27 (by decide) ?_
  refine sc_ge_f (tgt := 51) C (by decide) d_X5_init_29 (by decide) ?_
  refine sc_aload_n C d_X5_init_32 rfl 1 rfl ?_
  refine sc_getR (v := 49) C fd_X5_13 rfl rfl (by decide) rfl d_X5_init_33 ?_
  refine sc_iload_n C d_X5_init_36 rfl 0 rfl ?_
  refine sc_new C cd_X0 q281 rfl (by decide) (by decide) (had _ (sa_lt (k := .inl 0) rfl)) d_X5_init_37 ?_
  refine sc_N (N' := 105) rfl ?_
  refine sc_dup C d_X5_init_40 rfl ?_
  refine sc_invN C had (kc_X0 104 105 _ (by decide) (by rfl) (by rfl)) q261 ds_X0_init q121 rfl q260 (by decide) rfl rfl rfl (Nat.le_of_ble_eq_true rfl) (by decide) (by decide) (by decide) (by decide) d_X5_init_41 ?_
  refine sc_N (N' := 106) rfl ?_
  refine sc_aast_Camp (n := 41) C rfl (by decide) (by decide) rfl (by decide) d_X5_init_44 ?_
  refine sc_iinc (v := 27) (lv' := [(1, .int 27), (0, .ref (ad 48))]) C d_X5_init_45 0 rfl (by decide) (by decide) rfl ?_
  refine sc_goto (tgt := 26) C d_X5_init_48 (by decide) ?_
  refine sc_iload_n C d_X5_init_26 rfl 0 rfl ?_
  refine sc_bipush (v := 41) C d_X5_init_27 (by decide) ?_
  refine sc_ge_f (tgt := 51) C (by decide) d_X5_init_29 (by decide) ?_
  refine sc_aload_n C d_X5_init_32 rfl 1 rfl ?_
  refine sc_getR (v := 49) C fd_X5_13 rfl rfl (by decide) rfl d_X5_init_33 ?_
  refine sc_iload_n C d_X5_init_36 rfl 0 rfl ?_
  refine sc_new C cd_X0 q281 rfl (by decide) (by decide) (had _ (sa_lt (k := .inl 0) rfl)) d_X5_init_37 ?_
  refine sc_N (N' := 107) rfl ?_
  refine sc_dup C d_X5_init_40 rfl ?_
  refine sc_invN C had (kc_X0 106 107 _ (by decide) (by rfl) (by rfl)) q261 ds_X0_init q121 rfl q260 (by decide) rfl rfl rfl (Nat.le_of_ble_eq_true rfl) (by decide) (by decide) (by decide) (by decide) d_X5_init_41 ?_
  refine sc_N (N' := 108) rfl ?_
  refine sc_aast_Camp (n := 41) C rfl (by decide) (by decide) rfl (by decide) d_X5_init_44 ?_
  refine sc_st (σ' := t_X5_5 σ) rfl ?_
  refine sc_iinc (v := 28) (lv' := [(1, .int 28), (0, .ref (ad 48))]) C d_X5_init_45 0 rfl (by decide) (by decide) rfl ?_
  refine sc_goto (tgt := 26) C d_X5_init_48 (by decide) ?_
  refine sc_iload_n C d_X5_init_26 rfl 0 rfl ?_
  refine sc_bipush (v := 41) C d_X5_init_27 (by decide) ?_
  refine sc_ge_f (tgt := 51) C (by decide) d_X5_init_29 (by decide) ?_
  refine sc_aload_n C d_X5_init_32 rfl 1 rfl ?_
  refine sc_getR (v := 49) C fd_X5_13 rfl rfl (by decide) rfl d_X5_init_33 ?_
  refine sc_iload_n C d_X5_init_36 rfl 0 rfl ?_
  refine sc_new C cd_X0 q281 rfl (by decide) (by decide) (had _ (sa_lt (k := .inl 0) rfl)) d_X5_init_37 ?_
  refine sc_N (N' := 109) rfl ?_
  refine sc_dup C d_X5_init_40 rfl ?_
  refine sc_invN C had (kc_X0 108 109 _ (by decide) (by rfl) (by rfl)) q261 ds_X0_init q121 rfl q260 (by decide) rfl rfl rfl (Nat.le_of_ble_eq_true rfl) (by decide) (by decide) (by decide) (by decide) d_X5_init_41 ?_
  refine sc_N (N' := 110) rfl ?_
  refine sc_aast_Camp (n := 41) C rfl (by decide) (by decide) rfl (by decide) d_X5_init_44 ?_
  refine sc_iinc (v := 29) (lv' := [(1, .int 29), (0, .ref (ad 48))]) C d_X5_init_45 0 rfl (by decide) (by decide) rfl ?_
  refine sc_goto (tgt := 26) C d_X5_init_48 (by decide) ?_
  refine sc_iload_n C d_X5_init_26 rfl 0 rfl ?_
  refine sc_bipush (v := 41) C d_X5_init_27 (by decide) ?_
  refine sc_ge_f (tgt := 51) C (by decide) d_X5_init_29 (by decide) ?_
  refine sc_aload_n C d_X5_init_32 rfl 1 rfl ?_
  refine sc_getR (v := 49) C fd_X5_13 rfl rfl (by decide) rfl d_X5_init_33 ?_
  refine sc_iload_n C d_X5_init_36 rfl 0 rfl ?_
  refine sc_new C cd_X0 q281 rfl (by decide) (by decide) (had _ (sa_lt (k := .inl 0) rfl)) d_X5_init_37 ?_
  refine sc_N (N' := 111) rfl ?_
  refine sc_dup C d_X5_init_40 rfl ?_
  refine sc_invN C had (kc_X0 110 111 _ (by decide) (by rfl) (by rfl)) q261 ds_X0_init q121 rfl q260 (by decide) rfl rfl rfl (Nat.le_of_ble_eq_true rfl) (by decide) (by decide) (by decide) (by decide) d_X5_init_41 ?_
  refine sc_N (N' := 112) rfl ?_
  refine sc_aast_Camp (n := 41) C rfl (by decide) (by decide) rfl (by decide) d_X5_init_44 ?_
  refine sc_iinc (v := 30) (lv' := [(1, .int 30), (0, .ref (ad 48))]) C d_X5_init_45 0 rfl (by decide) (by decide) rfl ?_
  refine sc_goto (tgt := 26) C d_X5_init_48 (by decide) ?_
  refine sc_iload_n C d_X5_init_26 rfl 0 rfl ?_
  refine sc_bipush (v := 41) C d_X5_init_27 (by decide) ?_
  refine sc_ge_f (tgt := 51) C (by decide) d_X5_init_29 (by decide) ?_
  refine sc_aload_n C d_X5_init_32 rfl 1 rfl ?_
  refine sc_getR (v := 49) C fd_X5_13 rfl rfl (by decide) rfl d_X5_init_33 ?_
  refine sc_iload_n C d_X5_init_36 rfl 0 rfl ?_
  refine sc_new C cd_X0 q281 rfl (by decide) (by decide) (had _ (sa_lt (k := .inl 0) rfl)) d_X5_init_37 ?_
  refine sc_N (N' := 113) rfl ?_
  refine sc_dup C d_X5_init_40 rfl ?_
  refine sc_invN C had (kc_X0 112 113 _ (by decide) (by rfl) (by rfl)) q261 ds_X0_init q121 rfl q260 (by decide) rfl rfl rfl (Nat.le_of_ble_eq_true rfl) (by decide) (by decide) (by decide) (by decide) d_X5_init_41 ?_
  refine sc_N (N' := 114) rfl ?_
  refine sc_aast_Camp (n := 41) C rfl (by decide) (by decide) rfl (by decide) d_X5_init_44 ?_
  refine sc_iinc (v := 31) (lv' := [(1, .int 31), (0, .ref (ad 48))]) C d_X5_init_45 0 rfl (by decide) (by decide) rfl ?_
  refine sc_goto (tgt := 26) C d_X5_init_48 (by decide) ?_
  refine sc_iload_n C d_X5_init_26 rfl 0 rfl ?_
  refine sc_bipush (v := 41) C d_X5_init_27 (by decide) ?_
  refine sc_ge_f (tgt := 51) C (by decide) d_X5_init_29 (by decide) ?_
  refine sc_aload_n C d_X5_init_32 rfl 1 rfl ?_
  refine sc_getR (v := 49) C fd_X5_13 rfl rfl (by decide) rfl d_X5_init_33 ?_
  refine sc_iload_n C d_X5_init_36 rfl 0 rfl ?_
  refine sc_new C cd_X0 q281 rfl (by decide) (by decide) (had _ (sa_lt (k := .inl 0) rfl)) d_X5_init_37 ?_
  refine sc_N (N' := 115) rfl ?_
  refine sc_dup C d_X5_init_40 rfl ?_
  refine sc_invN C had (kc_X0 114 115 _ (by decide) (by rfl) (by rfl)) q261 ds_X0_init q121 rfl q260 (by decide) rfl rfl rfl (Nat.le_of_ble_eq_true rfl) (by decide) (by decide) (by decide) (by decide) d_X5_init_41 ?_
  refine sc_N (N' := 116) rfl ?_
  refine sc_aast_Camp (n := 41) C rfl (by decide) (by decide) rfl (by decide) d_X5_init_44 ?_
  refine sc_st (σ' := t_X5_6 σ) rfl ?_
  refine sc_iinc (v := 32) (lv' := [(1, .int 32), (0, .ref (ad 48))]) C d_X5_init_45 0 rfl (by decide) (by decide) rfl ?_
  refine sc_goto (tgt := 26) C d_X5_init_48 (by decide) ?_
  refine sc_iload_n C d_X5_init_26 rfl 0 rfl ?_
  refine sc_bipush (v := 41) C d_X5_init_27 (by decide) ?_
  refine sc_ge_f (tgt := 51) C (by decide) d_X5_init_29 (by decide) ?_
  refine sc_aload_n C d_X5_init_32 rfl 1 rfl ?_
  refine sc_getR (v := 49) C fd_X5_13 rfl rfl (by decide) rfl d_X5_init_33 ?_
  refine sc_iload_n C d_X5_init_36 rfl 0 rfl ?_
  refine sc_new C cd_X0 q281 rfl (by decide) (by decide) (had _ (sa_lt (k := .inl 0) rfl)) d_X5_init_37 ?_
  refine sc_N (N' := 117) rfl ?_
  refine sc_dup C d_X5_init_40 rfl ?_
  refine sc_invN C had (kc_X0 116 117 _ (by decide) (by rfl) (by rfl)) q261 ds_X0_init q121 rfl q260 (by decide) rfl rfl rfl (Nat.le_of_ble_eq_true rfl) (by decide) (by decide) (by decide) (by decide) d_X5_init_41 ?_
  refine sc_N (N' := 118) rfl ?_
  refine sc_aast_Camp (n := 41) C rfl (by decide) (by decide) rfl (by decide) d_X5_init_44 ?_
  refine sc_iinc (v := 33) (lv' := [(1, .int 33), (0, .ref (ad 48))]) C d_X5_init_45 0 rfl (by decide) (by decide) rfl ?_
  refine sc_goto (tgt := 26) C d_X5_init_48 (by decide) ?_
  refine sc_iload_n C d_X5_init_26 rfl 0 rfl ?_
  refine sc_bipush (v := 41) C d_X5_init_27 (by decide) ?_
  refine sc_ge_f (tgt := 51) C (by decide) d_X5_init_29 (by decide) ?_
  refine sc_aload_n C d_X5_init_32 rfl 1 rfl ?_
  refine sc_getR (v := 49) C fd_X5_13 rfl rfl (by decide) rfl d_X5_init_33 ?_
  refine sc_iload_n C d_X5_init_36 rfl 0 rfl ?_
  refine sc_new C cd_X0 q281 rfl (by decide) (by decide) (had _ (sa_lt (k := .inl 0) rfl)) d_X5_init_37 ?_
  refine sc_N (N' := 119) rfl ?_
  refine sc_dup C d_X5_init_40 rfl ?_
  refine sc_invN C had (kc_X0 118 119 _ (by decide) (by rfl) (by rfl)) q261 ds_X0_init q121 rfl q260 (by decide) rfl rfl rfl (Nat.le_of_ble_eq_true rfl) (by decide) (by decide) (by decide) (by decide) d_X5_init_41 ?_
  refine sc_N (N' := 120) rfl ?_
  refine sc_aast_Camp (n := 41) C rfl (by decide) (by decide) rfl (by decide) d_X5_init_44 ?_
  refine sc_iinc (v := 34) (lv' := [(1, .int 34), (0, .ref (ad 48))]) C d_X5_init_45 0 rfl (by decide) (by decide) rfl ?_
  refine sc_goto (tgt := 26) C d_X5_init_48 (by decide) ?_
  refine sc_iload_n C d_X5_init_26 rfl 0 rfl ?_
  refine sc_bipush (v := 41) C d_X5_init_27 (by decide) ?_
  refine sc_ge_f (tgt := 51) C (by decide) d_X5_init_29 (by decide) ?_
  refine sc_aload_n C d_X5_init_32 rfl 1 rfl ?_
  refine sc_getR (v := 49) C fd_X5_13 rfl rfl (by decide) rfl d_X5_init_33 ?_
  refine sc_iload_n C d_X5_init_36 rfl 0 rfl ?_
  refine sc_new C cd_X0 q281 rfl (by decide) (by decide) (had _ (sa_lt (k := .inl 0) rfl)) d_X5_init_37 ?_
  refine sc_N (N' := 121) rfl ?_
  refine sc_dup C d_X5_init_40 rfl ?_
  refine sc_invN C had (kc_X0 120 121 _ (by decide) (by rfl) (by rfl)) q261 ds_X0_init q121 rfl q260 (by decide) rfl rfl rfl (Nat.le_of_ble_eq_true rfl) (by decide) (by decide) (by decide) (by decide) d_X5_init_41 ?_
  refine sc_N (N' := 122) rfl ?_
  refine sc_aast_Camp (n := 41) C rfl (by decide) (by decide) rfl (by decide) d_X5_init_44 ?_
  refine sc_iinc (v := 35) (lv' := [(1, .int 35), (0, .ref (ad 48))]) C d_X5_init_45 0 rfl (by decide) (by decide) rfl ?_
  refine sc_goto (tgt := 26) C d_X5_init_48 (by decide) ?_
  refine sc_iload_n C d_X5_init_26 rfl 0 rfl ?_
  refine sc_bipush (v := 41) C d_X5_init_27 (by decide) ?_
  refine sc_ge_f (tgt := 51) C (by decide) d_X5_init_29 (by decide) ?_
  refine sc_aload_n C d_X5_init_32 rfl 1 rfl ?_
  refine sc_getR (v := 49) C fd_X5_13 rfl rfl (by decide) rfl d_X5_init_33 ?_
  refine sc_iload_n C d_X5_init_36 rfl 0 rfl ?_
  refine sc_new C cd_X0 q281 rfl (by decide) (by decide) (had _ (sa_lt (k := .inl 0) rfl)) d_X5_init_37 ?_
  refine sc_N (N' := 123) rfl ?_
  refine sc_dup C d_X5_init_40 rfl ?_
  refine sc_invN C had (kc_X0 122 123 _ (by decide) (by rfl) (by rfl)) q261 ds_X0_init q121 rfl q260 (by decide) rfl rfl rfl (Nat.le_of_ble_eq_true rfl) (by decide) (by decide) (by decide) (by decide) d_X5_init_41 ?_
  refine sc_N (N' := 124) rfl ?_
  refine sc_aast_Camp (n := 41) C rfl (by decide) (by decide) rfl (by decide) d_X5_init_44 ?_
  refine sc_st (σ' := t_X5_7 σ) rfl ?_
  refine sc_iinc (v := 36) (lv' := [(1, .int 36), (0, .ref (ad 48))]) C d_X5_init_45 0 rfl (by decide) (by decide) rfl ?_
  refine sc_goto (tgt := 26) C d_X5_init_48 (by decide) ?_
  refine sc_iload_n C d_X5_init_26 rfl 0 rfl ?_
  refine sc_bipush (v := 41) C d_X5_init_27 (by decide) ?_
  refine sc_ge_f (tgt := 51) C (by decide) d_X5_init_29 (by decide) ?_
  refine sc_aload_n C d_X5_init_32 rfl 1 rfl ?_
  refine sc_getR (v := 49) C fd_X5_13 rfl rfl (by decide) rfl d_X5_init_33 ?_
  refine sc_iload_n C d_X5_init_36 rfl 0 rfl ?_
  refine sc_new C cd_X0 q281 rfl (by decide) (by decide) (had _ (sa_lt (k := .inl 0) rfl)) d_X5_init_37 ?_
  refine sc_N (N' := 125) rfl ?_
  refine sc_dup C d_X5_init_40 rfl ?_
  refine sc_invN C had (kc_X0 124 125 _ (by decide) (by rfl) (by rfl)) q261 ds_X0_init q121 rfl q260 (by decide) rfl rfl rfl (Nat.le_of_ble_eq_true rfl) (by decide) (by decide) (by decide) (by decide) d_X5_init_41 ?_
  refine sc_N (N' := 126) rfl ?_
  refine sc_aast_Camp (n := 41) C rfl (by decide) (by decide) rfl (by decide) d_X5_init_44 ?_
  refine sc_iinc (v := 37) (lv' := [(1, .int 37), (0, .ref (ad 48))]) C d_X5_init_45 0 rfl (by decide) (by decide) rfl ?_
  refine sc_goto (tgt := 26) C d_X5_init_48 (by decide) ?_
  refine sc_iload_n C d_X5_init_26 rfl 0 rfl ?_
  refine sc_bipush (v := 41) C d_X5_init_27 (by decide) ?_
  refine sc_ge_f (tgt := 51) C (by decide) d_X5_init_29 (by decide) ?_
  refine sc_aload_n C d_X5_init_32 rfl 1 rfl ?_
  refine sc_getR (v := 49) C fd_X5_13 rfl rfl (by decide) rfl d_X5_init_33 ?_
  refine sc_iload_n C d_X5_init_36 rfl 0 rfl ?_
  refine sc_new C cd_X0 q281 rfl (by decide) (by decide) (had _ (sa_lt (k := .inl 0) rfl)) d_X5_init_37 ?_
  refine sc_N (N' := 127) rfl ?_
  refine sc_dup C d_X5_init_40 rfl ?_
  refine sc_invN C had (kc_X0 126 127 _ (by decide) (by rfl) (by rfl)) q261 ds_X0_init q121 rfl q260 (by decide) rfl rfl rfl (Nat.le_of_ble_eq_true rfl) (by decide) (by decide) (by decide) (by decide) d_X5_init_41 ?_
  refine sc_N (N' := 128) rfl ?_
  refine sc_aast_Camp (n := 41) C rfl (by decide) (by decide) rfl (by decide) d_X5_init_44 ?_
  refine sc_iinc (v := 38) (lv' := [(1, .int 38), (0, .ref (ad 48))]) C d_X5_init_45 0 rfl (by decide) (by decide) rfl ?_
  refine sc_goto (tgt := 26) C d_X5_init_48 (by decide) ?_
  refine sc_iload_n C d_X5_init_26 rfl 0 rfl ?_
  refine sc_bipush (v := 41) C d_X5_init_27 (by decide) ?_
  refine sc_ge_f (tgt := 51) C (by decide) d_X5_init_29 (by decide) ?_
  refine sc_aload_n C d_X5_init_32 rfl 1 rfl ?_
  refine sc_getR (v := 49) C fd_X5_13 rfl rfl (by decide) rfl d_X5_init_33 ?_
  refine sc_iload_n C d_X5_init_36 rfl 0 rfl ?_
  refine sc_new C cd_X0 q281 rfl (by decide) (by decide) (had _ (sa_lt (k := .inl 0) rfl)) d_X5_init_37 ?_
  refine sc_N (N' := 129) rfl ?_
  refine sc_dup C d_X5_init_40 rfl ?_
  refine sc_invN C had (kc_X0 128 129 _ (by decide) (by rfl) (by rfl)) q261 ds_X0_init q121 rfl q260 (by decide) rfl rfl rfl (Nat.le_of_ble_eq_true rfl) (by decide) (by decide) (by decide) (by decide) d_X5_init_41 ?_
  refine sc_N (N' := 130) rfl ?_
  refine sc_aast_Camp (n := 41) C rfl (by decide) (by decide) rfl (by decide) d_X5_init_44 ?_
  refine sc_iinc (v := 39) (lv' := [(1, .int 39), (0, .ref (ad 48))]) C d_X5_init_45 0 rfl (by decide) (by decide) rfl ?_
  refine sc_goto (tgt := 26) C d_X5_init_48 (by decide) ?_
  refine sc_iload_n C d_X5_init_26 rfl 0 rfl ?_
  refine sc_bipush (v := 41) C d_X5_init_27 (by decide) ?_
  refine sc_ge_f (tgt := 51) C (by decide) d_X5_init_29 (by decide) ?_
  refine sc_aload_n C d_X5_init_32 rfl 1 rfl ?_
  refine sc_getR (v := 49) C fd_X5_13 rfl rfl (by decide) rfl d_X5_init_33 ?_
  refine sc_iload_n C d_X5_init_36 rfl 0 rfl ?_
  refine sc_new C cd_X0 q281 rfl (by decide) (by decide) (had _ (sa_lt (k := .inl 0) rfl)) d_X5_init_37 ?_
  refine sc_N (N' := 131) rfl ?_
  refine sc_dup C d_X5_init_40 rfl ?_
  refine sc_invN C had (kc_X0 130 131 _ (by decide) (by rfl) (by rfl)) q261 ds_X0_init q121 rfl q260 (by decide) rfl rfl rfl (Nat.le_of_ble_eq_true rfl) (by decide) (by decide) (by decide) (by decide) d_X5_init_41 ?_
  refine sc_N (N' := 132) rfl ?_
  refine sc_aast_Camp (n := 41) C rfl (by decide) (by decide) rfl (by decide) d_X5_init_44 ?_
  refine sc_st (σ' := t_X5_8 σ) rfl ?_
  refine sc_iinc (v := 40) (lv' := [(1, .int 40), (0, .ref (ad 48))]) C d_X5_init_45 0 rfl (by decide) (by decide) rfl ?_
  refine sc_goto (tgt := 26) C d_X5_init_48 (by decide) ?_
  refine sc_iload_n C d_X5_init_26 rfl 0 rfl ?_
  refine sc_bipush (v := 41) C d_X5_init_27 (by decide) ?_
  refine sc_ge_f (tgt := 51) C (by decide) d_X5_init_29 (by decide) ?_
  refine sc_aload_n C d_X5_init_32 rfl 1 rfl ?_
  refine sc_getR (v := 49) C fd_X5_13 rfl rfl (by decide) rfl d_X5_init_33 ?_
  refine sc_iload_n C d_X5_init_36 rfl 0 rfl ?_
  refine sc_new C cd_X0 q281 rfl (by decide) (by decide) (had _ (sa_lt (k := .inl 0) rfl)) d_X5_init_37 ?_
  refine sc_N (N' := 133) rfl ?_
  refine sc_dup C d_X5_init_40 rfl ?_
  refine sc_invN C had (kc_X0 132 133 _ (by decide) (by rfl) (by rfl)) q261 ds_X0_init q121 rfl q260 (by decide) rfl rfl rfl (Nat.le_of_ble_eq_true rfl) (by decide) (by decide) (by decide) (by decide) d_X5_init_41 ?_
  refine sc_N (N' := 134) rfl ?_
  refine sc_aast_Camp (n := 41) C rfl (by decide) (by decide) rfl (by decide) d_X5_init_44 ?_
  refine sc_iinc (v := 41) (lv' := [(1, .int 41), (0, .ref (ad 48))]) C d_X5_init_45 0 rfl (by decide) (by decide) rfl ?_
  refine sc_goto (tgt := 26) C d_X5_init_48 (by decide) ?_
  refine sc_iload_n C d_X5_init_26 rfl 0 rfl ?_
  refine sc_bipush (v := 41) C d_X5_init_27 (by decide) ?_
  refine sc_ge_t (tgt := 51) C (by decide) d_X5_init_29 (by decide) ?_
  exact sc_vret C rfl d_X5_init_51
theorem kc_X5 (σ : sa_St) : sa_Mc 2 49 85 yX5_init cX5_init 2 none (fun ad => [.ref (ad 48)]) none σ (t_X5 σ) := sa_mkc (by decide) (fun ad => Nat.le_of_ble_eq_true rfl) (fun p l e s m args below meth c D ad cA A had C => bc_X5 σ had C)
theorem d_X6_init_0 : decode cX6_init 0 = .ok (.aload_n 0, 1) := by decide +kernel
theorem d_X6_init_1 : decode cX6_init 1 = .ok (.invokespecial 3, 3) := by decide +kernel
theorem d_X6_init_4 : decode cX6_init 4 = .ok (.aload_n 0, 1) := by decide +kernel
theorem d_X6_init_5 : decode cX6_init 5 = .ok (.sipush 200, 3) := by decide +kernel
theorem d_X6_init_8 : decode cX6_init 8 = .ok (.newarray .int, 2) := by decide +kernel
theorem d_X6_init_10 : decode cX6_init 10 = .ok (.putfield 11, 3) := by decide +kernel
theorem d_X6_init_13 : decode cX6_init 13 = .ok (.aload_n 0, 1) := by decide +kernel
theorem d_X6_init_14 : decode cX6_init 14 = .ok (.getfield 11, 3) := by decide +kernel
theorem d_X6_init_17 : decode cX6_init 17 = .ok (.iconst (-1), 1) := by decide +kernel
theorem d_X6_init_18 : decode cX6_init 18 = .ok (.invokestatic 15, 3) := by decide +kernel
theorem d_X6_init_21 : decode cX6_init 21 = .ok (.return_, 1) := by decide +kernel
def t_X6 (σ : sa_St) : sa_St := (sa_fl (sa_upR (sa_nw σ 135) 134 0 (135 + 1)) 135 (-1) 200)
set_option maxHeartbeats 4000000 in
set_option maxRecDepth 20000 in
theorem bc_X6 {p : Program} {l : Launch} {e : Env} {s : State} {m : MethodId} {args : Array Value} {below : List Frame} {meth : Method} {c : Code} {D : va_G} {ad : Nat → Nat} {cA : FieldType → ClassId} {A : Nat → Prop} (σ : sa_St) (had : ∀ i, i < sa_all → ad (i + 1) = ad i + 1) (C : sa_C p s m args meth c cX6_init RX6 "<init>" 1 none D ad cA A) : sa_Sc p l e s m args below meth c 1 2 D ad cA A 135 1 none (t_X6 σ) 135 σ 0 [(0, .ref (ad 134))] [] := by
  unfold t_X6
  refine sc_aload_n C d_X6_init_0 rfl 0 rfl ?_
  refine sc_objInit C q306 q145 q146 (by decide) (Nat.le_of_ble_eq_true rfl) d_X6_init_1 ?_
  refine sc_aload_n C d_X6_init_4 rfl 0 rfl ?_
  refine sc_sipush (v := 200) C d_X6_init_5 (by decide) ?_
  refine sc_newa_int C q165 rfl (by decide) (by decide) (by decide) (by decide) (by decide) (had _ (sa_lt (k := .inr (.int, 200)) rfl)) d_X6_init_8 ?_
  refine sc_N (N' := 136) rfl ?_
  refine sc_putR (v := 135) C fc_X6_11 rfl rfl rfl (by decide) d_X6_init_10 ?_
  refine sc_aload_n C d_X6_init_13 rfl 0 rfl ?_
  refine sc_getR (v := 135) C fd_X6_11 rfl rfl (by decide) rfl d_X6_init_14 ?_
  refine sc_iconst (v := (-1)) C d_X6_init_17 (by decide) ?_
  refine sc_invS C had (kc_fill 136 135 200 (-1) _ rfl (by decide) (by decide)) q309 ds_J7_fill_53178 q124 q308 q307 rfl rfl rfl (Nat.le_of_ble_eq_true rfl) (by decide) (by decide) (by decide) (by decide) d_X6_init_18 ?_
  exact sc_vret C rfl d_X6_init_21
theorem kc_X6 (σ : sa_St) : sa_Mc 2 135 1 yX6_init cX6_init 1 none (fun ad => [.ref (ad 134)]) none σ (t_X6 σ) := sa_mkc (by decide) (fun ad => Nat.le_of_ble_eq_true rfl) (fun p l e s m args below meth c D ad cA A had C => bc_X6 σ had C)
theorem d_X9_init_0 : decode cX9_init 0 = .ok (.aload_n 0, 1) := by decide +kernel
theorem d_X9_init_1 : decode cX9_init 1 = .ok (.invokespecial 3, 3) := by decide +kernel
theorem d_X9_init_4 : decode cX9_init 4 = .ok (.aload_n 0, 1) := by decide +kernel
theorem d_X9_init_5 : decode cX9_init 5 = .ok (.sipush 1600, 3) := by decide +kernel
theorem d_X9_init_8 : decode cX9_init 8 = .ok (.newarray .int, 2) := by decide +kernel
theorem d_X9_init_10 : decode cX9_init 10 = .ok (.putfield 11, 3) := by decide +kernel
theorem d_X9_init_13 : decode cX9_init 13 = .ok (.aload_n 0, 1) := by decide +kernel
theorem d_X9_init_14 : decode cX9_init 14 = .ok (.sipush 200, 3) := by decide +kernel
theorem d_X9_init_17 : decode cX9_init 17 = .ok (.newarray .int, 2) := by decide +kernel
theorem d_X9_init_19 : decode cX9_init 19 = .ok (.putfield 15, 3) := by decide +kernel
theorem d_X9_init_22 : decode cX9_init 22 = .ok (.aload_n 0, 1) := by decide +kernel
theorem d_X9_init_23 : decode cX9_init 23 = .ok (.bipush 8, 2) := by decide +kernel
theorem d_X9_init_25 : decode cX9_init 25 = .ok (.newarray .int, 2) := by decide +kernel
theorem d_X9_init_27 : decode cX9_init 27 = .ok (.putfield 18, 3) := by decide +kernel
theorem d_X9_init_30 : decode cX9_init 30 = .ok (.aload_n 0, 1) := by decide +kernel
theorem d_X9_init_31 : decode cX9_init 31 = .ok (.bipush 8, 2) := by decide +kernel
theorem d_X9_init_33 : decode cX9_init 33 = .ok (.bipush 100, 2) := by decide +kernel
theorem d_X9_init_35 : decode cX9_init 35 = .ok (.multianewarray 21 2, 4) := by decide +kernel
theorem d_X9_init_39 : decode cX9_init 39 = .ok (.putfield 23, 3) := by decide +kernel
theorem d_X9_init_42 : decode cX9_init 42 = .ok (.aload_n 0, 1) := by decide +kernel
theorem d_X9_init_43 : decode cX9_init 43 = .ok (.bipush 8, 2) := by decide +kernel
theorem d_X9_init_45 : decode cX9_init 45 = .ok (.newarray .int, 2) := by decide +kernel
theorem d_X9_init_47 : decode cX9_init 47 = .ok (.putfield 26, 3) := by decide +kernel
theorem d_X9_init_50 : decode cX9_init 50 = .ok (.aload_n 0, 1) := by decide +kernel
theorem d_X9_init_51 : decode cX9_init 51 = .ok (.bipush 100, 2) := by decide +kernel
theorem d_X9_init_53 : decode cX9_init 53 = .ok (.newarray .long, 2) := by decide +kernel
theorem d_X9_init_55 : decode cX9_init 55 = .ok (.putfield 29, 3) := by decide +kernel
theorem d_X9_init_58 : decode cX9_init 58 = .ok (.aload_n 0, 1) := by decide +kernel
theorem d_X9_init_59 : decode cX9_init 59 = .ok (.aload_n 1, 1) := by decide +kernel
theorem d_X9_init_60 : decode cX9_init 60 = .ok (.putfield 33, 3) := by decide +kernel
theorem d_X9_init_63 : decode cX9_init 63 = .ok (.aload_n 0, 1) := by decide +kernel
theorem d_X9_init_64 : decode cX9_init 64 = .ok (.aload_n 2, 1) := by decide +kernel
theorem d_X9_init_65 : decode cX9_init 65 = .ok (.putfield 37, 3) := by decide +kernel
theorem d_X9_init_68 : decode cX9_init 68 = .ok (.return_, 1) := by decide +kernel
def t_X9 (σ : sa_St) : sa_St := (sa_upR (sa_upR (sa_upR (sa_nw (sa_upR (sa_nw (sa_upR (sa_nw2 (sa_upR (sa_nw (sa_upR (sa_nw (sa_upR (sa_nw σ 137) 136 10 (137 + 1)) 138) 136 11 (138 + 1)) 139) 136 12 (139 + 1)) 140) 136 13 (140 + 1)) 149) 136 14 (149 + 1)) 150) 136 16 (150 + 1)) 136 0 (15 + 1)) 136 1 (134 + 1))
set_option maxHeartbeats 4000000 in
set_option maxRecDepth 20000 in
theorem bc_X9 {p : Program} {l : Launch} {e : Env} {s : State} {m : MethodId} {args : Array Value} {below : List Frame} {meth : Method} {c : Code} {D : va_G} {ad : Nat → Nat} {cA : FieldType → ClassId} {A : Nat → Prop} (σ : sa_St) (had : ∀ i, i < sa_all → ad (i + 1) = ad i + 1) (C : sa_C p s m args meth c cX9_init RX9 "<init>" 3 none D ad cA A) : sa_Sc p l e s m args below meth c 3 1 D ad cA A 137 14 none (t_X9 σ) 137 σ 0 [(0, .ref (ad 136)), (1, .ref (ad 15)), (2, .ref (ad 134))] [] := by
  unfold t_X9
  refine sc_aload_n C d_X9_init_0 rfl 0 rfl ?_
  refine sc_objInit C q323 q145 q146 (by decide) (Nat.le_of_ble_eq_true rfl) d_X9_init_1 ?_
  refine sc_aload_n C d_X9_init_4 rfl 0 rfl ?_
  refine sc_sipush (v := 1600) C d_X9_init_5 (by decide) ?_
  refine sc_newa_int C q165 rfl (by decide) (by decide) (by decide) (by decide) (by decide) (had _ (sa_lt (k := .inr (.int, 1600)) rfl)) d_X9_init_8 ?_
  refine sc_N (N' := 138) rfl ?_
  refine sc_putR (v := 137) C fc_X9_11 rfl rfl rfl (by decide) d_X9_init_10 ?_
  refine sc_aload_n C d_X9_init_13 rfl 0 rfl ?_
  refine sc_sipush (v := 200) C d_X9_init_14 (by decide) ?_
  refine sc_newa_int C q165 rfl (by decide) (by decide) (by decide) (by decide) (by decide) (had _ (sa_lt (k := .inr (.int, 200)) rfl)) d_X9_init_17 ?_
  refine sc_N (N' := 139) rfl ?_
  refine sc_putR (v := 138) C fc_X9_15 rfl rfl rfl (by decide) d_X9_init_19 ?_
  refine sc_aload_n C d_X9_init_22 rfl 0 rfl ?_
  refine sc_bipush (v := 8) C d_X9_init_23 (by decide) ?_
  refine sc_newa_int C q165 rfl (by decide) (by decide) (by decide) (by decide) (by decide) (had _ (sa_lt (k := .inr (.int, 8)) rfl)) d_X9_init_25 ?_
  refine sc_N (N' := 140) rfl ?_
  refine sc_putR (v := 139) C fc_X9_18 rfl rfl rfl (by decide) d_X9_init_27 ?_
  refine sc_aload_n C d_X9_init_30 rfl 0 rfl ?_
  refine sc_bipush (v := 8) C d_X9_init_31 (by decide) ?_
  refine sc_bipush (v := 100) C d_X9_init_33 (by decide) ?_
  refine sc_multi C had q382 q324 d_X9_init_35 ?_
  refine sc_N (N' := 149) rfl ?_
  refine sc_putR (v := 140) C fc_X9_23 rfl rfl rfl (by decide) d_X9_init_39 ?_
  refine sc_aload_n C d_X9_init_42 rfl 0 rfl ?_
  refine sc_bipush (v := 8) C d_X9_init_43 (by decide) ?_
  refine sc_newa_int C q165 rfl (by decide) (by decide) (by decide) (by decide) (by decide) (had _ (sa_lt (k := .inr (.int, 8)) rfl)) d_X9_init_45 ?_
  refine sc_N (N' := 150) rfl ?_
  refine sc_putR (v := 149) C fc_X9_26 rfl rfl rfl (by decide) d_X9_init_47 ?_
  refine sc_aload_n C d_X9_init_50 rfl 0 rfl ?_
  refine sc_bipush (v := 100) C d_X9_init_51 (by decide) ?_
  refine sc_newa_long C q382 rfl (by decide) (by decide) (by decide) (by decide) (by decide) (had _ (sa_lt (k := .inr (.long, 100)) rfl)) d_X9_init_53 ?_
  refine sc_N (N' := 151) rfl ?_
  refine sc_putR (v := 150) C fc_X9_29 rfl rfl rfl (by decide) d_X9_init_55 ?_
  refine sc_aload_n C d_X9_init_58 rfl 0 rfl ?_
  refine sc_aload_n C d_X9_init_59 rfl 1 rfl ?_
  refine sc_putR (v := 15) C fc_X9_33 rfl rfl rfl (by decide) d_X9_init_60 ?_
  refine sc_aload_n C d_X9_init_63 rfl 0 rfl ?_
  refine sc_aload_n C d_X9_init_64 rfl 2 rfl ?_
  refine sc_putR (v := 134) C fc_X9_37 rfl rfl rfl (by decide) d_X9_init_65 ?_
  exact sc_vret C rfl d_X9_init_68
theorem kc_X9 (σ : sa_St) : sa_Mc 1 137 14 yX9_init cX9_init 3 none (fun ad => [.ref (ad 136), .ref (ad 15), .ref (ad 134)]) none σ (t_X9 σ) := sa_mkc (by decide) (fun ad => Nat.le_of_ble_eq_true rfl) (fun p l e s m args below meth c D ad cA A had C => bc_X9 σ had C)
theorem d_X8_init_0 : decode cX8_init 0 = .ok (.aload_n 0, 1) := by decide +kernel
theorem d_X8_init_1 : decode cX8_init 1 = .ok (.invokespecial 3, 3) := by decide +kernel
theorem d_X8_init_4 : decode cX8_init 4 = .ok (.aload_n 0, 1) := by decide +kernel
theorem d_X8_init_5 : decode cX8_init 5 = .ok (.bipush 8, 2) := by decide +kernel
theorem d_X8_init_7 : decode cX8_init 7 = .ok (.newarray .int, 2) := by decide +kernel
theorem d_X8_init_9 : decode cX8_init 9 = .ok (.putfield 11, 3) := by decide +kernel
theorem d_X8_init_12 : decode cX8_init 12 = .ok (.aload_n 0, 1) := by decide +kernel
theorem d_X8_init_13 : decode cX8_init 13 = .ok (.bipush 8, 2) := by decide +kernel
theorem d_X8_init_15 : decode cX8_init 15 = .ok (.newarray .int, 2) := by decide +kernel
theorem d_X8_init_17 : decode cX8_init 17 = .ok (.putfield 15, 3) := by decide +kernel
theorem d_X8_init_20 : decode cX8_init 20 = .ok (.aload_n 0, 1) := by decide +kernel
theorem d_X8_init_21 : decode cX8_init 21 = .ok (.sipush 4096, 3) := by decide +kernel
theorem d_X8_init_24 : decode cX8_init 24 = .ok (.newarray .int, 2) := by decide +kernel
theorem d_X8_init_26 : decode cX8_init 26 = .ok (.putfield 18, 3) := by decide +kernel
theorem d_X8_init_29 : decode cX8_init 29 = .ok (.aload_n 0, 1) := by decide +kernel
theorem d_X8_init_30 : decode cX8_init 30 = .ok (.sipush 4096, 3) := by decide +kernel
theorem d_X8_init_33 : decode cX8_init 33 = .ok (.newarray .int, 2) := by decide +kernel
theorem d_X8_init_35 : decode cX8_init 35 = .ok (.putfield 21, 3) := by decide +kernel
theorem d_X8_init_38 : decode cX8_init 38 = .ok (.return_, 1) := by decide +kernel
def t_X8 (σ : sa_St) : sa_St := (sa_upR (sa_nw (sa_upR (sa_nw (sa_upR (sa_nw (sa_upR (sa_nw σ 152) 151 0 (152 + 1)) 153) 151 1 (153 + 1)) 154) 151 3 (154 + 1)) 155) 151 4 (155 + 1))
set_option maxHeartbeats 4000000 in
set_option maxRecDepth 20000 in
theorem bc_X8 {p : Program} {l : Launch} {e : Env} {s : State} {m : MethodId} {args : Array Value} {below : List Frame} {meth : Method} {c : Code} {D : va_G} {ad : Nat → Nat} {cA : FieldType → ClassId} {A : Nat → Prop} (σ : sa_St) (had : ∀ i, i < sa_all → ad (i + 1) = ad i + 1) (C : sa_C p s m args meth c cX8_init RX8 "<init>" 1 none D ad cA A) : sa_Sc p l e s m args below meth c 1 1 D ad cA A 152 4 none (t_X8 σ) 152 σ 0 [(0, .ref (ad 151))] [] := by
  unfold t_X8
  refine sc_aload_n C d_X8_init_0 rfl 0 rfl ?_
  refine sc_objInit C q388 q145 q146 (by decide) (Nat.le_of_ble_eq_true rfl) d_X8_init_1 ?_
  refine sc_aload_n C d_X8_init_4 rfl 0 rfl ?_
  refine sc_bipush (v := 8) C d_X8_init_5 (by decide) ?_
  refine sc_newa_int C q165 rfl (by decide) (by decide) (by decide) (by decide) (by decide) (had _ (sa_lt (k := .inr (.int, 8)) rfl)) d_X8_init_7 ?_
  refine sc_N (N' := 153) rfl ?_
  refine sc_putR (v := 152) C fc_X8_11 rfl rfl rfl (by decide) d_X8_init_9 ?_
  refine sc_aload_n C d_X8_init_12 rfl 0 rfl ?_
  refine sc_bipush (v := 8) C d_X8_init_13 (by decide) ?_
  refine sc_newa_int C q165 rfl (by decide) (by decide) (by decide) (by decide) (by decide) (had _ (sa_lt (k := .inr (.int, 8)) rfl)) d_X8_init_15 ?_
  refine sc_N (N' := 154) rfl ?_
  refine sc_putR (v := 153) C fc_X8_15 rfl rfl rfl (by decide) d_X8_init_17 ?_
  refine sc_aload_n C d_X8_init_20 rfl 0 rfl ?_
  refine sc_sipush (v := 4096) C d_X8_init_21 (by decide) ?_
  refine sc_newa_int C q165 rfl (by decide) (by decide) (by decide) (by decide) (by decide) (had _ (sa_lt (k := .inr (.int, 4096)) rfl)) d_X8_init_24 ?_
  refine sc_N (N' := 155) rfl ?_
  refine sc_putR (v := 154) C fc_X8_18 rfl rfl rfl (by decide) d_X8_init_26 ?_
  refine sc_aload_n C d_X8_init_29 rfl 0 rfl ?_
  refine sc_sipush (v := 4096) C d_X8_init_30 (by decide) ?_
  refine sc_newa_int C q165 rfl (by decide) (by decide) (by decide) (by decide) (by decide) (had _ (sa_lt (k := .inr (.int, 4096)) rfl)) d_X8_init_33 ?_
  refine sc_N (N' := 156) rfl ?_
  refine sc_putR (v := 155) C fc_X8_21 rfl rfl rfl (by decide) d_X8_init_35 ?_
  exact sc_vret C rfl d_X8_init_38
theorem kc_X8 (σ : sa_St) : sa_Mc 1 152 4 yX8_init cX8_init 1 none (fun ad => [.ref (ad 151)]) none σ (t_X8 σ) := sa_mkc (by decide) (fun ad => Nat.le_of_ble_eq_true rfl) (fun p l e s m args below meth c D ad cA A had C => bc_X8 σ had C)
theorem d_X10_init_0 : decode cX10_init 0 = .ok (.aload_n 0, 1) := by decide +kernel
theorem d_X10_init_1 : decode cX10_init 1 = .ok (.invokespecial 3, 3) := by decide +kernel
theorem d_X10_init_4 : decode cX10_init 4 = .ok (.aload_n 0, 1) := by decide +kernel
theorem d_X10_init_5 : decode cX10_init 5 = .ok (.bipush 8, 2) := by decide +kernel
theorem d_X10_init_7 : decode cX10_init 7 = .ok (.newarray .int, 2) := by decide +kernel
theorem d_X10_init_9 : decode cX10_init 9 = .ok (.putfield 11, 3) := by decide +kernel
theorem d_X10_init_12 : decode cX10_init 12 = .ok (.aload_n 0, 1) := by decide +kernel
theorem d_X10_init_13 : decode cX10_init 13 = .ok (.bipush 7, 2) := by decide +kernel
theorem d_X10_init_15 : decode cX10_init 15 = .ok (.newarray .int, 2) := by decide +kernel
theorem d_X10_init_17 : decode cX10_init 17 = .ok (.putfield 15, 3) := by decide +kernel
theorem d_X10_init_20 : decode cX10_init 20 = .ok (.return_, 1) := by decide +kernel
def t_X10 (σ : sa_St) : sa_St := (sa_upR (sa_nw (sa_upR (sa_nw σ 157) 156 0 (157 + 1)) 158) 156 1 (158 + 1))
set_option maxHeartbeats 4000000 in
set_option maxRecDepth 20000 in
theorem bc_X10 {p : Program} {l : Launch} {e : Env} {s : State} {m : MethodId} {args : Array Value} {below : List Frame} {meth : Method} {c : Code} {D : va_G} {ad : Nat → Nat} {cA : FieldType → ClassId} {A : Nat → Prop} (σ : sa_St) (had : ∀ i, i < sa_all → ad (i + 1) = ad i + 1) (C : sa_C p s m args meth c cX10_init RX10 "<init>" 1 none D ad cA A) : sa_Sc p l e s m args below meth c 1 1 D ad cA A 157 2 none (t_X10 σ) 157 σ 0 [(0, .ref (ad 156))] [] := by
  unfold t_X10
  refine sc_aload_n C d_X10_init_0 rfl 0 rfl ?_
  refine sc_objInit C q414 q145 q146 (by decide) (Nat.le_of_ble_eq_true rfl) d_X10_init_1 ?_
  refine sc_aload_n C d_X10_init_4 rfl 0 rfl ?_
  refine sc_bipush (v := 8) C d_X10_init_5 (by decide) ?_
  refine sc_newa_int C q165 rfl (by decide) (by decide) (by decide) (by decide) (by decide) (had _ (sa_lt (k := .inr (.int, 8)) rfl)) d_X10_init_7 ?_
  refine sc_N (N' := 158) rfl ?_
  refine sc_putR (v := 157) C fc_X10_11 rfl rfl rfl (by decide) d_X10_init_9 ?_
  refine sc_aload_n C d_X10_init_12 rfl 0 rfl ?_
  refine sc_bipush (v := 7) C d_X10_init_13 (by decide) ?_
  refine sc_newa_int C q165 rfl (by decide) (by decide) (by decide) (by decide) (by decide) (had _ (sa_lt (k := .inr (.int, 7)) rfl)) d_X10_init_15 ?_
  refine sc_N (N' := 159) rfl ?_
  refine sc_putR (v := 158) C fc_X10_15 rfl rfl rfl (by decide) d_X10_init_17 ?_
  exact sc_vret C rfl d_X10_init_20
theorem kc_X10 (σ : sa_St) : sa_Mc 1 157 2 yX10_init cX10_init 1 none (fun ad => [.ref (ad 156)]) none σ (t_X10 σ) := sa_mkc (by decide) (fun ad => Nat.le_of_ble_eq_true rfl) (fun p l e s m args below meth c D ad cA A had C => bc_X10 σ had C)
theorem d_X11_init_0 : decode cX11_init 0 = .ok (.aload_n 0, 1) := by decide +kernel
theorem d_X11_init_1 : decode cX11_init 1 = .ok (.invokespecial 1, 3) := by decide +kernel
theorem d_X11_init_4 : decode cX11_init 4 = .ok (.aload_n 0, 1) := by decide +kernel
theorem d_X11_init_5 : decode cX11_init 5 = .ok (.new 7, 3) := by decide +kernel
theorem d_X11_init_8 : decode cX11_init 8 = .ok (.dup, 1) := by decide +kernel
theorem d_X11_init_9 : decode cX11_init 9 = .ok (.invokespecial 9, 3) := by decide +kernel
theorem d_X11_init_12 : decode cX11_init 12 = .ok (.putfield 10, 3) := by decide +kernel
theorem d_X11_init_15 : decode cX11_init 15 = .ok (.aload_n 0, 1) := by decide +kernel
theorem d_X11_init_16 : decode cX11_init 16 = .ok (.new 16, 3) := by decide +kernel
theorem d_X11_init_19 : decode cX11_init 19 = .ok (.dup, 1) := by decide +kernel
theorem d_X11_init_20 : decode cX11_init 20 = .ok (.invokespecial 18, 3) := by decide +kernel
theorem d_X11_init_23 : decode cX11_init 23 = .ok (.putfield 19, 3) := by decide +kernel
theorem d_X11_init_26 : decode cX11_init 26 = .ok (.aload_n 0, 1) := by decide +kernel
theorem d_X11_init_27 : decode cX11_init 27 = .ok (.new 16, 3) := by decide +kernel
theorem d_X11_init_30 : decode cX11_init 30 = .ok (.dup, 1) := by decide +kernel
theorem d_X11_init_31 : decode cX11_init 31 = .ok (.invokespecial 18, 3) := by decide +kernel
theorem d_X11_init_34 : decode cX11_init 34 = .ok (.putfield 23, 3) := by decide +kernel
theorem d_X11_init_37 : decode cX11_init 37 = .ok (.aload_n 0, 1) := by decide +kernel
theorem d_X11_init_38 : decode cX11_init 38 = .ok (.new 26, 3) := by decide +kernel
theorem d_X11_init_41 : decode cX11_init 41 = .ok (.dup, 1) := by decide +kernel
theorem d_X11_init_42 : decode cX11_init 42 = .ok (.invokespecial 28, 3) := by decide +kernel
theorem d_X11_init_45 : decode cX11_init 45 = .ok (.putfield 29, 3) := by decide +kernel
theorem d_X11_init_48 : decode cX11_init 48 = .ok (.aload_n 0, 1) := by decide +kernel
theorem d_X11_init_49 : decode cX11_init 49 = .ok (.iconst 5, 1) := by decide +kernel
theorem d_X11_init_50 : decode cX11_init 50 = .ok (.anewarray 33, 3) := by decide +kernel
theorem d_X11_init_53 : decode cX11_init 53 = .ok (.putfield 35, 3) := by decide +kernel
theorem d_X11_init_56 : decode cX11_init 56 = .ok (.iconst 0, 1) := by decide +kernel
theorem d_X11_init_57 : decode cX11_init 57 = .ok (.istore_n 1, 1) := by decide +kernel
theorem d_X11_init_58 : decode cX11_init 58 = .ok (.iload_n 1, 1) := by decide +kernel
theorem d_X11_init_59 : decode cX11_init 59 = .ok (.aload_n 0, 1) := by decide +kernel
theorem d_X11_init_60 : decode cX11_init 60 = .ok (.getfield 35, 3) := by decide +kernel
theorem d_X11_init_63 : decode cX11_init 63 = .ok (.arraylength, 1) := by decide +kernel
theorem d_X11_init_64 : decode cX11_init 64 = .ok (.if_icmp .ge 22, 3) := by decide +kernel
theorem d_X11_init_67 : decode cX11_init 67 = .ok (.aload_n 0, 1) := by decide +kernel
theorem d_X11_init_68 : decode cX11_init 68 = .ok (.getfield 35, 3) := by decide +kernel
theorem d_X11_init_71 : decode cX11_init 71 = .ok (.iload_n 1, 1) := by decide +kernel
theorem d_X11_init_72 : decode cX11_init 72 = .ok (.new 33, 3) := by decide +kernel
theorem d_X11_init_75 : decode cX11_init 75 = .ok (.dup, 1) := by decide +kernel
theorem d_X11_init_76 : decode cX11_init 76 = .ok (.invokespecial 39, 3) := by decide +kernel
theorem d_X11_init_79 : decode cX11_init 79 = .ok (.aastore, 1) := by decide +kernel
theorem d_X11_init_80 : decode cX11_init 80 = .ok (.iinc 1 1, 3) := by decide +kernel
theorem d_X11_init_83 : decode cX11_init 83 = .ok (.goto (-25), 3) := by decide +kernel
theorem d_X11_init_86 : decode cX11_init 86 = .ok (.aload_n 0, 1) := by decide +kernel
theorem d_X11_init_87 : decode cX11_init 87 = .ok (.new 40, 3) := by decide +kernel
theorem d_X11_init_90 : decode cX11_init 90 = .ok (.dup, 1) := by decide +kernel
theorem d_X11_init_91 : decode cX11_init 91 = .ok (.invokespecial 42, 3) := by decide +kernel
theorem d_X11_init_94 : decode cX11_init 94 = .ok (.putfield 43, 3) := by decide +kernel
theorem d_X11_init_97 : decode cX11_init 97 = .ok (.aload_n 0, 1) := by decide +kernel
theorem d_X11_init_98 : decode cX11_init 98 = .ok (.new 40, 3) := by decide +kernel
theorem d_X11_init_101 : decode cX11_init 101 = .ok (.dup, 1) := by decide +kernel
theorem d_X11_init_102 : decode cX11_init 102 = .ok (.invokespecial 42, 3) := by decide +kernel
theorem d_X11_init_105 : decode cX11_init 105 = .ok (.putfield 47, 3) := by decide +kernel
theorem d_X11_init_108 : decode cX11_init 108 = .ok (.aload_n 0, 1) := by decide +kernel
theorem d_X11_init_109 : decode cX11_init 109 = .ok (.new 50, 3) := by decide +kernel
theorem d_X11_init_112 : decode cX11_init 112 = .ok (.dup, 1) := by decide +kernel
theorem d_X11_init_113 : decode cX11_init 113 = .ok (.invokespecial 52, 3) := by decide +kernel
theorem d_X11_init_116 : decode cX11_init 116 = .ok (.putfield 53, 3) := by decide +kernel
theorem d_X11_init_119 : decode cX11_init 119 = .ok (.aload_n 0, 1) := by decide +kernel
theorem d_X11_init_120 : decode cX11_init 120 = .ok (.new 57, 3) := by decide +kernel
theorem d_X11_init_123 : decode cX11_init 123 = .ok (.dup, 1) := by decide +kernel
theorem d_X11_init_124 : decode cX11_init 124 = .ok (.invokespecial 59, 3) := by decide +kernel
theorem d_X11_init_127 : decode cX11_init 127 = .ok (.putfield 60, 3) := by decide +kernel
theorem d_X11_init_130 : decode cX11_init 130 = .ok (.aload_n 0, 1) := by decide +kernel
theorem d_X11_init_131 : decode cX11_init 131 = .ok (.new 64, 3) := by decide +kernel
theorem d_X11_init_134 : decode cX11_init 134 = .ok (.dup, 1) := by decide +kernel
theorem d_X11_init_135 : decode cX11_init 135 = .ok (.aload_n 0, 1) := by decide +kernel
theorem d_X11_init_136 : decode cX11_init 136 = .ok (.getfield 29, 3) := by decide +kernel
theorem d_X11_init_139 : decode cX11_init 139 = .ok (.aload_n 0, 1) := by decide +kernel
theorem d_X11_init_140 : decode cX11_init 140 = .ok (.getfield 60, 3) := by decide +kernel
theorem d_X11_init_143 : decode cX11_init 143 = .ok (.invokespecial 66, 3) := by decide +kernel
theorem d_X11_init_146 : decode cX11_init 146 = .ok (.putfield 69, 3) := by decide +kernel
theorem d_X11_init_149 : decode cX11_init 149 = .ok (.aload_n 0, 1) := by decide +kernel
theorem d_X11_init_150 : decode cX11_init 150 = .ok (.new 73, 3) := by decide +kernel
theorem d_X11_init_153 : decode cX11_init 153 = .ok (.dup, 1) := by decide +kernel
theorem d_X11_init_154 : decode cX11_init 154 = .ok (.invokespecial 75, 3) := by decide +kernel
theorem d_X11_init_157 : decode cX11_init 157 = .ok (.putfield 76, 3) := by decide +kernel
theorem d_X11_init_160 : decode cX11_init 160 = .ok (.aload_n 0, 1) := by decide +kernel
theorem d_X11_init_161 : decode cX11_init 161 = .ok (.new 80, 3) := by decide +kernel
theorem d_X11_init_164 : decode cX11_init 164 = .ok (.dup, 1) := by decide +kernel
theorem d_X11_init_165 : decode cX11_init 165 = .ok (.invokespecial 82, 3) := by decide +kernel
theorem d_X11_init_168 : decode cX11_init 168 = .ok (.putfield 83, 3) := by decide +kernel
theorem d_X11_init_171 : decode cX11_init 171 = .ok (.return_, 1) := by decide +kernel
def t_X11_0 (σ : sa_St) : sa_St := (sa_upR (t_X4 36 37 (sa_nw (sa_upR (t_X4 34 35 (sa_nw (sa_upR (sa_nw (sa_upR (t_X3 (sa_nw (sa_upR (t_X1 9 10 (sa_nw (sa_upR (t_X1 3 4 (sa_nw (sa_upR (t_X7 (sa_nw σ 1)) 0 0 (1 + 1)) 3)) 0 1 (3 + 1)) 9)) 0 2 (9 + 1)) 15)) 0 3 (15 + 1)) 33) 0 4 (33 + 1)) 34)) 33 (0 : Int32).toNatClampNeg (34 + 1)) 36)) 33 (1 : Int32).toNatClampNeg (36 + 1))
def t_X11 (σ : sa_St) : sa_St := (sa_upR (t_X10 (sa_nw (sa_upR (t_X8 (sa_nw (sa_upR (t_X9 (sa_nw (sa_upR (t_X6 (sa_nw (sa_upR (t_X5 (sa_nw (sa_upR (t_X0 46 47 (sa_nw (sa_upR (t_X0 44 45 (sa_nw (sa_upR (t_X4 42 43 (sa_nw (sa_upR (t_X4 40 41 (sa_nw (sa_upR (t_X4 38 39 (sa_nw (t_X11_0 σ) 38)) 33 (2 : Int32).toNatClampNeg (38 + 1)) 40)) 33 (3 : Int32).toNatClampNeg (40 + 1)) 42)) 33 (4 : Int32).toNatClampNeg (42 + 1)) 44)) 0 6 (44 + 1)) 46)) 0 7 (46 + 1)) 48)) 0 8 (48 + 1)) 134)) 0 9 (134 + 1)) 136)) 0 10 (136 + 1)) 151)) 0 11 (151 + 1)) 156)) 0 12 (156 + 1))
set_option maxHeartbeats 4000000 in
set_option maxRecDepth 20000 in
theorem bc_X11 {p : Program} {l : Launch} {e : Env} {s : State} {m : MethodId} {args : Array Value} {below : List Frame} {meth : Method} {c : Code} {D : va_G} {ad : Nat → Nat} {cA : FieldType → ClassId} {A : Nat → Prop} (σ : sa_St) (had : ∀ i, i < sa_all → ad (i + 1) = ad i + 1) (C : sa_C p s m args meth c cX11_init RX11 "<init>" 2 none D ad cA A) : sa_Sc p l e s m args below meth c 2 4 D ad cA A 1 158 none (t_X11 σ) 1 σ 0 [(0, .ref (ad 0))] [] := by
  unfold t_X11
  refine sc_aload_n C d_X11_init_0 rfl 0 rfl ?_
  refine sc_objInit C q144 q145 q146 (by decide) (Nat.le_of_ble_eq_true rfl) d_X11_init_1 ?_
  refine sc_aload_n C d_X11_init_4 rfl 0 rfl ?_
  refine sc_new C cd_X7 q147 rfl (by decide) (by decide) (had _ (sa_lt (k := .inl 7) rfl)) d_X11_init_5 ?_
  refine sc_N (N' := 2) rfl ?_
  refine sc_dup C d_X11_init_8 rfl ?_
  refine sc_invN C had (kc_X7 _) q151 ds_X7_init q115 rfl q150 (by decide) rfl rfl rfl (Nat.le_of_ble_eq_true rfl) (by decide) (by decide) (by decide) (by decide) d_X11_init_9 ?_
  refine sc_N (N' := 3) rfl ?_
  refine sc_putR (v := 1) C fc_X11_10 rfl rfl rfl (by decide) d_X11_init_12 ?_
  refine sc_aload_n C d_X11_init_15 rfl 0 rfl ?_
  refine sc_new C cd_X1 q166 rfl (by decide) (by decide) (had _ (sa_lt (k := .inl 1) rfl)) d_X11_init_16 ?_
  refine sc_N (N' := 4) rfl ?_
  refine sc_dup C d_X11_init_19 rfl ?_
  refine sc_invN C had (kc_X1 3 4 _ (by decide) (by rfl) (by rfl) (by rfl) (by rfl) (by rfl) (by rfl)) q170 ds_X1_init q116 rfl q169 (by decide) rfl rfl rfl (Nat.le_of_ble_eq_true rfl) (by decide) (by decide) (by decide) (by decide) d_X11_init_20 ?_
  refine sc_N (N' := 9) rfl ?_
  refine sc_putR (v := 3) C fc_X11_19 rfl rfl rfl (by decide) d_X11_init_23 ?_
  refine sc_aload_n C d_X11_init_26 rfl 0 rfl ?_
  refine sc_new C cd_X1 q166 rfl (by decide) (by decide) (had _ (sa_lt (k := .inl 1) rfl)) d_X11_init_27 ?_
  refine sc_N (N' := 10) rfl ?_
  refine sc_dup C d_X11_init_30 rfl ?_
  refine sc_invN C had (kc_X1 9 10 _ (by decide) (by rfl) (by rfl) (by rfl) (by rfl) (by rfl) (by rfl)) q170 ds_X1_init q116 rfl q169 (by decide) rfl rfl rfl (Nat.le_of_ble_eq_true rfl) (by decide) (by decide) (by decide) (by decide) d_X11_init_31 ?_
  refine sc_N (N' := 15) rfl ?_
  refine sc_putR (v := 9) C fc_X11_23 rfl rfl rfl (by decide) d_X11_init_34 ?_
  refine sc_aload_n C d_X11_init_37 rfl 0 rfl ?_
  refine sc_new C cd_X3 q191 rfl (by decide) (by decide) (had _ (sa_lt (k := .inl 3) rfl)) d_X11_init_38 ?_
  refine sc_N (N' := 16) rfl ?_
  refine sc_dup C d_X11_init_41 rfl ?_
  refine sc_inv C had (kc_X3 _) q195 ds_X3_init q117 rfl q194 q193 rfl rfl rfl (Nat.le_of_ble_eq_true rfl) (by decide) (by decide) (by decide) (by decide) d_X11_init_42 ?_
  refine sc_N (N' := 33) rfl ?_
  refine sc_putR (v := 15) C fc_X11_29 rfl rfl rfl (by decide) d_X11_init_45 ?_
  refine sc_aload_n C d_X11_init_48 rfl 0 rfl ?_
  refine sc_iconst (v := 5) C d_X11_init_49 (by decide) ?_
  refine sc_anew_Orders C q242 rfl (by decide) (by decide) (by decide) (by decide) (by decide) (had _ (sa_lt (k := .inr (.object "SaltArmy$Orders", 5)) rfl)) d_X11_init_50 ?_
  refine sc_N (N' := 34) rfl ?_
  refine sc_putR (v := 33) C fc_X11_35 rfl rfl rfl (by decide) d_X11_init_53 ?_
  refine sc_iconst (v := 0) C d_X11_init_56 (by decide) ?_
  refine sc_istore_n (lv' := [(1, .int 0), (0, .ref (ad 0))]) C d_X11_init_57 rfl (by decide) rfl ?_
  refine sc_iload_n C d_X11_init_58 rfl 0 rfl ?_
  refine sc_aload_n C d_X11_init_59 rfl 1 rfl ?_
  refine sc_getR (v := 33) C fd_X11_35 rfl rfl (by decide) rfl d_X11_init_60 ?_
  refine sc_alen_Orders (n := 5) (v := 5) C rfl (by decide) (by decide) d_X11_init_63 ?_
  refine sc_ge_f (tgt := 86) C (by decide) d_X11_init_64 (by decide) ?_
  refine sc_aload_n C d_X11_init_67 rfl 1 rfl ?_
  refine sc_getR (v := 33) C fd_X11_35 rfl rfl (by decide) rfl d_X11_init_68 ?_
  refine sc_iload_n C d_X11_init_71 rfl 0 rfl ?_
  refine sc_new C cd_X4 q242 rfl (by decide) (by decide) (had _ (sa_lt (k := .inl 4) rfl)) d_X11_init_72 ?_
  refine sc_N (N' := 35) rfl ?_
  refine sc_dup C d_X11_init_75 rfl ?_
  refine sc_invN C had (kc_X4 34 35 _ (by decide) (by rfl) (by rfl)) q247 ds_X4_init q120 rfl q246 (by decide) rfl rfl rfl (Nat.le_of_ble_eq_true rfl) (by decide) (by decide) (by decide) (by decide) d_X11_init_76 ?_
  refine sc_N (N' := 36) rfl ?_
  refine sc_aast_Orders (n := 5) C rfl (by decide) (by decide) rfl (by decide) d_X11_init_79 ?_
  refine sc_iinc (v := 1) (lv' := [(1, .int 1), (0, .ref (ad 0))]) C d_X11_init_80 0 rfl (by decide) (by decide) rfl ?_
  refine sc_goto (tgt := 58) C d_X11_init_83 (by decide) ?_
  refine sc_iload_n C d_X11_init_58 rfl 0 rfl ?_
  refine sc_aload_n C d_X11_init_59 rfl 1 rfl ?_
  refine sc_getR (v := 33) C fd_X11_35 rfl rfl (by decide) rfl d_X11_init_60 ?_
  refine sc_alen_Orders (n := 5) (v := 5) C rfl (by decide) (by decide) d_X11_init_63 ?_
  refine sc_ge_f (tgt := 86) C (by decide) d_X11_init_64 (by decide) ?_
  refine sc_aload_n C d_X11_init_67 rfl 1 rfl ?_
  refine sc_getR (v := 33) C fd_X11_35 rfl rfl (by decide) rfl d_X11_init_68 ?_
  refine sc_iload_n C d_X11_init_71 rfl 0 rfl ?_
  refine sc_new C cd_X4 q242 rfl (by decide) (by decide) (had _ (sa_lt (k := .inl 4) rfl)) d_X11_init_72 ?_
  refine sc_N (N' := 37) rfl ?_
  refine sc_dup C d_X11_init_75 rfl ?_
  refine sc_invN C had (kc_X4 36 37 _ (by decide) (by rfl) (by rfl)) q247 ds_X4_init q120 rfl q246 (by decide) rfl rfl rfl (Nat.le_of_ble_eq_true rfl) (by decide) (by decide) (by decide) (by decide) d_X11_init_76 ?_
  refine sc_N (N' := 38) rfl ?_
  refine sc_aast_Orders (n := 5) C rfl (by decide) (by decide) rfl (by decide) d_X11_init_79 ?_
  refine sc_st (σ' := t_X11_0 σ) rfl ?_
  refine sc_iinc (v := 2) (lv' := [(1, .int 2), (0, .ref (ad 0))]) C d_X11_init_80 0 rfl (by decide) (by decide) rfl ?_
  refine sc_goto (tgt := 58) C d_X11_init_83 (by decide) ?_
  refine sc_iload_n C d_X11_init_58 rfl 0 rfl ?_
  refine sc_aload_n C d_X11_init_59 rfl 1 rfl ?_
  refine sc_getR (v := 33) C fd_X11_35 rfl rfl (by decide) rfl d_X11_init_60 ?_
  refine sc_alen_Orders (n := 5) (v := 5) C rfl (by decide) (by decide) d_X11_init_63 ?_
  refine sc_ge_f (tgt := 86) C (by decide) d_X11_init_64 (by decide) ?_
  refine sc_aload_n C d_X11_init_67 rfl 1 rfl ?_
  refine sc_getR (v := 33) C fd_X11_35 rfl rfl (by decide) rfl d_X11_init_68 ?_
  refine sc_iload_n C d_X11_init_71 rfl 0 rfl ?_
  refine sc_new C cd_X4 q242 rfl (by decide) (by decide) (had _ (sa_lt (k := .inl 4) rfl)) d_X11_init_72 ?_
  refine sc_N (N' := 39) rfl ?_
  refine sc_dup C d_X11_init_75 rfl ?_
  refine sc_invN C had (kc_X4 38 39 _ (by decide) (by rfl) (by rfl)) q247 ds_X4_init q120 rfl q246 (by decide) rfl rfl rfl (Nat.le_of_ble_eq_true rfl) (by decide) (by decide) (by decide) (by decide) d_X11_init_76 ?_
  refine sc_N (N' := 40) rfl ?_
  refine sc_aast_Orders (n := 5) C rfl (by decide) (by decide) rfl (by decide) d_X11_init_79 ?_
  refine sc_iinc (v := 3) (lv' := [(1, .int 3), (0, .ref (ad 0))]) C d_X11_init_80 0 rfl (by decide) (by decide) rfl ?_
  refine sc_goto (tgt := 58) C d_X11_init_83 (by decide) ?_
  refine sc_iload_n C d_X11_init_58 rfl 0 rfl ?_
  refine sc_aload_n C d_X11_init_59 rfl 1 rfl ?_
  refine sc_getR (v := 33) C fd_X11_35 rfl rfl (by decide) rfl d_X11_init_60 ?_
  refine sc_alen_Orders (n := 5) (v := 5) C rfl (by decide) (by decide) d_X11_init_63 ?_
  refine sc_ge_f (tgt := 86) C (by decide) d_X11_init_64 (by decide) ?_
  refine sc_aload_n C d_X11_init_67 rfl 1 rfl ?_
  refine sc_getR (v := 33) C fd_X11_35 rfl rfl (by decide) rfl d_X11_init_68 ?_
  refine sc_iload_n C d_X11_init_71 rfl 0 rfl ?_
  refine sc_new C cd_X4 q242 rfl (by decide) (by decide) (had _ (sa_lt (k := .inl 4) rfl)) d_X11_init_72 ?_
  refine sc_N (N' := 41) rfl ?_
  refine sc_dup C d_X11_init_75 rfl ?_
  refine sc_invN C had (kc_X4 40 41 _ (by decide) (by rfl) (by rfl)) q247 ds_X4_init q120 rfl q246 (by decide) rfl rfl rfl (Nat.le_of_ble_eq_true rfl) (by decide) (by decide) (by decide) (by decide) d_X11_init_76 ?_
  refine sc_N (N' := 42) rfl ?_
  refine sc_aast_Orders (n := 5) C rfl (by decide) (by decide) rfl (by decide) d_X11_init_79 ?_
  refine sc_iinc (v := 4) (lv' := [(1, .int 4), (0, .ref (ad 0))]) C d_X11_init_80 0 rfl (by decide) (by decide) rfl ?_
  refine sc_goto (tgt := 58) C d_X11_init_83 (by decide) ?_
  refine sc_iload_n C d_X11_init_58 rfl 0 rfl ?_
  refine sc_aload_n C d_X11_init_59 rfl 1 rfl ?_
  refine sc_getR (v := 33) C fd_X11_35 rfl rfl (by decide) rfl d_X11_init_60 ?_
  refine sc_alen_Orders (n := 5) (v := 5) C rfl (by decide) (by decide) d_X11_init_63 ?_
  refine sc_ge_f (tgt := 86) C (by decide) d_X11_init_64 (by decide) ?_
  refine sc_aload_n C d_X11_init_67 rfl 1 rfl ?_
  refine sc_getR (v := 33) C fd_X11_35 rfl rfl (by decide) rfl d_X11_init_68 ?_
  refine sc_iload_n C d_X11_init_71 rfl 0 rfl ?_
  refine sc_new C cd_X4 q242 rfl (by decide) (by decide) (had _ (sa_lt (k := .inl 4) rfl)) d_X11_init_72 ?_
  refine sc_N (N' := 43) rfl ?_
  refine sc_dup C d_X11_init_75 rfl ?_
  refine sc_invN C had (kc_X4 42 43 _ (by decide) (by rfl) (by rfl)) q247 ds_X4_init q120 rfl q246 (by decide) rfl rfl rfl (Nat.le_of_ble_eq_true rfl) (by decide) (by decide) (by decide) (by decide) d_X11_init_76 ?_
  refine sc_N (N' := 44) rfl ?_
  refine sc_aast_Orders (n := 5) C rfl (by decide) (by decide) rfl (by decide) d_X11_init_79 ?_
  refine sc_iinc (v := 5) (lv' := [(1, .int 5), (0, .ref (ad 0))]) C d_X11_init_80 0 rfl (by decide) (by decide) rfl ?_
  refine sc_goto (tgt := 58) C d_X11_init_83 (by decide) ?_
  refine sc_iload_n C d_X11_init_58 rfl 0 rfl ?_
  refine sc_aload_n C d_X11_init_59 rfl 1 rfl ?_
  refine sc_getR (v := 33) C fd_X11_35 rfl rfl (by decide) rfl d_X11_init_60 ?_
  refine sc_alen_Orders (n := 5) (v := 5) C rfl (by decide) (by decide) d_X11_init_63 ?_
  refine sc_ge_t (tgt := 86) C (by decide) d_X11_init_64 (by decide) ?_
  refine sc_aload_n C d_X11_init_86 rfl 1 rfl ?_
  refine sc_new C cd_X0 q257 rfl (by decide) (by decide) (had _ (sa_lt (k := .inl 0) rfl)) d_X11_init_87 ?_
  refine sc_N (N' := 45) rfl ?_
  refine sc_dup C d_X11_init_90 rfl ?_
  refine sc_invN C had (kc_X0 44 45 _ (by decide) (by rfl) (by rfl)) q261 ds_X0_init q121 rfl q260 (by decide) rfl rfl rfl (Nat.le_of_ble_eq_true rfl) (by decide) (by decide) (by decide) (by decide) d_X11_init_91 ?_
  refine sc_N (N' := 46) rfl ?_
  refine sc_putR (v := 44) C fc_X11_43 rfl rfl rfl (by decide) d_X11_init_94 ?_
  refine sc_aload_n C d_X11_init_97 rfl 1 rfl ?_
  refine sc_new C cd_X0 q257 rfl (by decide) (by decide) (had _ (sa_lt (k := .inl 0) rfl)) d_X11_init_98 ?_
  refine sc_N (N' := 47) rfl ?_
  refine sc_dup C d_X11_init_101 rfl ?_
  refine sc_invN C had (kc_X0 46 47 _ (by decide) (by rfl) (by rfl)) q261 ds_X0_init q121 rfl q260 (by decide) rfl rfl rfl (Nat.le_of_ble_eq_true rfl) (by decide) (by decide) (by decide) (by decide) d_X11_init_102 ?_
  refine sc_N (N' := 48) rfl ?_
  refine sc_putR (v := 46) C fc_X11_47 rfl rfl rfl (by decide) d_X11_init_105 ?_
  refine sc_aload_n C d_X11_init_108 rfl 1 rfl ?_
  refine sc_new C cd_X5 q275 rfl (by decide) (by decide) (had _ (sa_lt (k := .inl 5) rfl)) d_X11_init_109 ?_
  refine sc_N (N' := 49) rfl ?_
  refine sc_dup C d_X11_init_112 rfl ?_
  refine sc_inv C had (kc_X5 _) q279 ds_X5_init q122 rfl q278 q277 rfl rfl rfl (Nat.le_of_ble_eq_true rfl) (by decide) (by decide) (by decide) (by decide) d_X11_init_113 ?_
  refine sc_N (N' := 134) rfl ?_
  refine sc_putR (v := 48) C fc_X11_53 rfl rfl rfl (by decide) d_X11_init_116 ?_
  refine sc_aload_n C d_X11_init_119 rfl 1 rfl ?_
  refine sc_new C cd_X6 q301 rfl (by decide) (by decide) (had _ (sa_lt (k := .inl 6) rfl)) d_X11_init_120 ?_
  refine sc_N (N' := 135) rfl ?_
  refine sc_dup C d_X11_init_123 rfl ?_
  refine sc_inv C had (kc_X6 _) q305 ds_X6_init q123 rfl q304 q303 rfl rfl rfl (Nat.le_of_ble_eq_true rfl) (by decide) (by decide) (by decide) (by decide) d_X11_init_124 ?_
  refine sc_N (N' := 136) rfl ?_
  refine sc_putR (v := 134) C fc_X11_60 rfl rfl rfl (by decide) d_X11_init_127 ?_
  refine sc_aload_n C d_X11_init_130 rfl 1 rfl ?_
  refine sc_new C cd_X9 q318 rfl (by decide) (by decide) (had _ (sa_lt (k := .inl 9) rfl)) d_X11_init_131 ?_
  refine sc_N (N' := 137) rfl ?_
  refine sc_dup C d_X11_init_134 rfl ?_
  refine sc_aload_n C d_X11_init_135 rfl 1 rfl ?_
  refine sc_getR (v := 15) C fd_X11_29 rfl rfl (by decide) rfl d_X11_init_136 ?_
  refine sc_aload_n C d_X11_init_139 rfl 1 rfl ?_
  refine sc_getR (v := 134) C fd_X11_60 rfl rfl (by decide) rfl d_X11_init_140 ?_
  refine sc_inv C had (kc_X9 _) q322 ds_X9_init q125 rfl q321 q320 rfl rfl rfl (Nat.le_of_ble_eq_true rfl) (by decide) (by decide) (by decide) (by decide) d_X11_init_143 ?_
  refine sc_N (N' := 151) rfl ?_
  refine sc_putR (v := 136) C fc_X11_69 rfl rfl rfl (by decide) d_X11_init_146 ?_
  refine sc_aload_n C d_X11_init_149 rfl 1 rfl ?_
  refine sc_new C cd_X8 q383 rfl (by decide) (by decide) (had _ (sa_lt (k := .inl 8) rfl)) d_X11_init_150 ?_
  refine sc_N (N' := 152) rfl ?_
  refine sc_dup C d_X11_init_153 rfl ?_
  refine sc_invN C had (kc_X8 _) q387 ds_X8_init q126 rfl q386 (by decide) rfl rfl rfl (Nat.le_of_ble_eq_true rfl) (by decide) (by decide) (by decide) (by decide) d_X11_init_154 ?_
  refine sc_N (N' := 156) rfl ?_
  refine sc_putR (v := 151) C fc_X11_76 rfl rfl rfl (by decide) d_X11_init_157 ?_
  refine sc_aload_n C d_X11_init_160 rfl 1 rfl ?_
  refine sc_new C cd_X10 q409 rfl (by decide) (by decide) (had _ (sa_lt (k := .inl 10) rfl)) d_X11_init_161 ?_
  refine sc_N (N' := 157) rfl ?_
  refine sc_dup C d_X11_init_164 rfl ?_
  refine sc_invN C had (kc_X10 _) q413 ds_X10_init q127 rfl q412 (by decide) rfl rfl rfl (Nat.le_of_ble_eq_true rfl) (by decide) (by decide) (by decide) (by decide) d_X11_init_165 ?_
  refine sc_N (N' := 159) rfl ?_
  refine sc_putR (v := 156) C fc_X11_83 rfl rfl rfl (by decide) d_X11_init_168 ?_
  exact sc_vret C rfl d_X11_init_171
theorem kc_X11 (σ : sa_St) : sa_Mc 4 1 158 yX11_init cX11_init 2 none (fun ad => [.ref (ad 0)]) none σ (t_X11 σ) := sa_mkc (by decide) (fun ad => Nat.le_of_ble_eq_true rfl) (fun p l e s m args below meth c D ad cA A had C => bc_X11 σ had C)
theorem d_X12_init_0 : decode cX12_init 0 = .ok (.aload_n 0, 1) := by decide +kernel
theorem d_X12_init_1 : decode cX12_init 1 = .ok (.invokespecial 3, 3) := by decide +kernel
theorem d_X12_init_4 : decode cX12_init 4 = .ok (.aload_n 0, 1) := by decide +kernel
theorem d_X12_init_5 : decode cX12_init 5 = .ok (.sipush 240, 3) := by decide +kernel
theorem d_X12_init_8 : decode cX12_init 8 = .ok (.newarray .byte, 2) := by decide +kernel
theorem d_X12_init_10 : decode cX12_init 10 = .ok (.putfield 9, 3) := by decide +kernel
theorem d_X12_init_13 : decode cX12_init 13 = .ok (.aload_n 0, 1) := by decide +kernel
theorem d_X12_init_14 : decode cX12_init 14 = .ok (.sipush 960, 3) := by decide +kernel
theorem d_X12_init_17 : decode cX12_init 17 = .ok (.newarray .byte, 2) := by decide +kernel
theorem d_X12_init_19 : decode cX12_init 19 = .ok (.putfield 13, 3) := by decide +kernel
theorem d_X12_init_22 : decode cX12_init 22 = .ok (.aload_n 0, 1) := by decide +kernel
theorem d_X12_init_23 : decode cX12_init 23 = .ok (.iconst 4, 1) := by decide +kernel
theorem d_X12_init_24 : decode cX12_init 24 = .ok (.newarray .int, 2) := by decide +kernel
theorem d_X12_init_26 : decode cX12_init 26 = .ok (.putfield 16, 3) := by decide +kernel
theorem d_X12_init_29 : decode cX12_init 29 = .ok (.aload_n 0, 1) := by decide +kernel
theorem d_X12_init_30 : decode cX12_init 30 = .ok (.sipush 128, 3) := by decide +kernel
theorem d_X12_init_33 : decode cX12_init 33 = .ok (.newarray .int, 2) := by decide +kernel
theorem d_X12_init_35 : decode cX12_init 35 = .ok (.putfield 20, 3) := by decide +kernel
theorem d_X12_init_38 : decode cX12_init 38 = .ok (.aload_n 0, 1) := by decide +kernel
theorem d_X12_init_39 : decode cX12_init 39 = .ok (.aload_n 0, 1) := by decide +kernel
theorem d_X12_init_40 : decode cX12_init 40 = .ok (.getfield 9, 3) := by decide +kernel
theorem d_X12_init_43 : decode cX12_init 43 = .ok (.putfield 23, 3) := by decide +kernel
theorem d_X12_init_46 : decode cX12_init 46 = .ok (.aload_n 0, 1) := by decide +kernel
theorem d_X12_init_47 : decode cX12_init 47 = .ok (.ldc 26, 2) := by decide +kernel
theorem d_X12_init_49 : decode cX12_init 49 = .ok (.putfield 28, 3) := by decide +kernel
theorem d_X12_init_52 : decode cX12_init 52 = .ok (.aload_n 0, 1) := by decide +kernel
theorem d_X12_init_53 : decode cX12_init 53 = .ok (.ldc 32, 2) := by decide +kernel
theorem d_X12_init_55 : decode cX12_init 55 = .ok (.putfield 34, 3) := by decide +kernel
theorem d_X12_init_58 : decode cX12_init 58 = .ok (.aload_n 0, 1) := by decide +kernel
theorem d_X12_init_59 : decode cX12_init 59 = .ok (.bipush 32, 2) := by decide +kernel
theorem d_X12_init_61 : decode cX12_init 61 = .ok (.newarray .int, 2) := by decide +kernel
theorem d_X12_init_63 : decode cX12_init 63 = .ok (.putfield 37, 3) := by decide +kernel
theorem d_X12_init_66 : decode cX12_init 66 = .ok (.aload_n 0, 1) := by decide +kernel
theorem d_X12_init_67 : decode cX12_init 67 = .ok (.bipush 32, 2) := by decide +kernel
theorem d_X12_init_69 : decode cX12_init 69 = .ok (.newarray .int, 2) := by decide +kernel
theorem d_X12_init_71 : decode cX12_init 71 = .ok (.putfield 40, 3) := by decide +kernel
theorem d_X12_init_74 : decode cX12_init 74 = .ok (.aload_n 0, 1) := by decide +kernel
theorem d_X12_init_75 : decode cX12_init 75 = .ok (.bipush 48, 2) := by decide +kernel
theorem d_X12_init_77 : decode cX12_init 77 = .ok (.newarray .int, 2) := by decide +kernel
theorem d_X12_init_79 : decode cX12_init 79 = .ok (.putfield 43, 3) := by decide +kernel
theorem d_X12_init_82 : decode cX12_init 82 = .ok (.aload_n 0, 1) := by decide +kernel
theorem d_X12_init_83 : decode cX12_init 83 = .ok (.bipush 48, 2) := by decide +kernel
theorem d_X12_init_85 : decode cX12_init 85 = .ok (.newarray .int, 2) := by decide +kernel
theorem d_X12_init_87 : decode cX12_init 87 = .ok (.putfield 46, 3) := by decide +kernel
theorem d_X12_init_90 : decode cX12_init 90 = .ok (.aload_n 0, 1) := by decide +kernel
theorem d_X12_init_91 : decode cX12_init 91 = .ok (.bipush 25, 2) := by decide +kernel
theorem d_X12_init_93 : decode cX12_init 93 = .ok (.newarray .int, 2) := by decide +kernel
theorem d_X12_init_95 : decode cX12_init 95 = .ok (.putfield 49, 3) := by decide +kernel
theorem d_X12_init_98 : decode cX12_init 98 = .ok (.aload_n 0, 1) := by decide +kernel
theorem d_X12_init_99 : decode cX12_init 99 = .ok (.bipush 6, 2) := by decide +kernel
theorem d_X12_init_101 : decode cX12_init 101 = .ok (.newarray .int, 2) := by decide +kernel
theorem d_X12_init_103 : decode cX12_init 103 = .ok (.putfield 52, 3) := by decide +kernel
theorem d_X12_init_106 : decode cX12_init 106 = .ok (.aload_n 0, 1) := by decide +kernel
theorem d_X12_init_107 : decode cX12_init 107 = .ok (.bipush 6, 2) := by decide +kernel
theorem d_X12_init_109 : decode cX12_init 109 = .ok (.newarray .int, 2) := by decide +kernel
theorem d_X12_init_111 : decode cX12_init 111 = .ok (.putfield 55, 3) := by decide +kernel
theorem d_X12_init_114 : decode cX12_init 114 = .ok (.aload_n 0, 1) := by decide +kernel
theorem d_X12_init_115 : decode cX12_init 115 = .ok (.sipush 240, 3) := by decide +kernel
theorem d_X12_init_118 : decode cX12_init 118 = .ok (.newarray .int, 2) := by decide +kernel
theorem d_X12_init_120 : decode cX12_init 120 = .ok (.putfield 58, 3) := by decide +kernel
theorem d_X12_init_123 : decode cX12_init 123 = .ok (.aload_n 0, 1) := by decide +kernel
theorem d_X12_init_124 : decode cX12_init 124 = .ok (.iconst 5, 1) := by decide +kernel
theorem d_X12_init_125 : decode cX12_init 125 = .ok (.newarray .int, 2) := by decide +kernel
theorem d_X12_init_127 : decode cX12_init 127 = .ok (.putfield 61, 3) := by decide +kernel
theorem d_X12_init_130 : decode cX12_init 130 = .ok (.aload_n 0, 1) := by decide +kernel
theorem d_X12_init_131 : decode cX12_init 131 = .ok (.sipush 260, 3) := by decide +kernel
theorem d_X12_init_134 : decode cX12_init 134 = .ok (.newarray .int, 2) := by decide +kernel
theorem d_X12_init_136 : decode cX12_init 136 = .ok (.putfield 64, 3) := by decide +kernel
theorem d_X12_init_139 : decode cX12_init 139 = .ok (.aload_n 0, 1) := by decide +kernel
theorem d_X12_init_140 : decode cX12_init 140 = .ok (.sipush 260, 3) := by decide +kernel
theorem d_X12_init_143 : decode cX12_init 143 = .ok (.newarray .int, 2) := by decide +kernel
theorem d_X12_init_145 : decode cX12_init 145 = .ok (.putfield 67, 3) := by decide +kernel
theorem d_X12_init_148 : decode cX12_init 148 = .ok (.aload_n 0, 1) := by decide +kernel
theorem d_X12_init_149 : decode cX12_init 149 = .ok (.iconst (-1), 1) := by decide +kernel
theorem d_X12_init_150 : decode cX12_init 150 = .ok (.putfield 70, 3) := by decide +kernel
theorem d_X12_init_153 : decode cX12_init 153 = .ok (.aload_n 0, 1) := by decide +kernel
theorem d_X12_init_154 : decode cX12_init 154 = .ok (.sipush 8191, 3) := by decide +kernel
theorem d_X12_init_157 : decode cX12_init 157 = .ok (.newarray .long, 2) := by decide +kernel
theorem d_X12_init_159 : decode cX12_init 159 = .ok (.putfield 74, 3) := by decide +kernel
theorem d_X12_init_162 : decode cX12_init 162 = .ok (.aload_n 0, 1) := by decide +kernel
theorem d_X12_init_163 : decode cX12_init 163 = .ok (.sipush 8191, 3) := by decide +kernel
theorem d_X12_init_166 : decode cX12_init 166 = .ok (.newarray .int, 2) := by decide +kernel
theorem d_X12_init_168 : decode cX12_init 168 = .ok (.putfield 78, 3) := by decide +kernel
theorem d_X12_init_171 : decode cX12_init 171 = .ok (.aload_n 0, 1) := by decide +kernel
theorem d_X12_init_172 : decode cX12_init 172 = .ok (.sipush 10400, 3) := by decide +kernel
theorem d_X12_init_175 : decode cX12_init 175 = .ok (.newarray .int, 2) := by decide +kernel
theorem d_X12_init_177 : decode cX12_init 177 = .ok (.putfield 81, 3) := by decide +kernel
theorem d_X12_init_180 : decode cX12_init 180 = .ok (.aload_n 0, 1) := by decide +kernel
theorem d_X12_init_181 : decode cX12_init 181 = .ok (.bipush 16, 2) := by decide +kernel
theorem d_X12_init_183 : decode cX12_init 183 = .ok (.newarray .int, 2) := by decide +kernel
theorem d_X12_init_185 : decode cX12_init 185 = .ok (.putfield 84, 3) := by decide +kernel
theorem d_X12_init_188 : decode cX12_init 188 = .ok (.aload_n 0, 1) := by decide +kernel
theorem d_X12_init_189 : decode cX12_init 189 = .ok (.bipush 16, 2) := by decide +kernel
theorem d_X12_init_191 : decode cX12_init 191 = .ok (.newarray .int, 2) := by decide +kernel
theorem d_X12_init_193 : decode cX12_init 193 = .ok (.putfield 87, 3) := by decide +kernel
theorem d_X12_init_196 : decode cX12_init 196 = .ok (.aload_n 0, 1) := by decide +kernel
theorem d_X12_init_197 : decode cX12_init 197 = .ok (.bipush 16, 2) := by decide +kernel
theorem d_X12_init_199 : decode cX12_init 199 = .ok (.newarray .boolean, 2) := by decide +kernel
theorem d_X12_init_201 : decode cX12_init 201 = .ok (.putfield 90, 3) := by decide +kernel
theorem d_X12_init_204 : decode cX12_init 204 = .ok (.aload_n 0, 1) := by decide +kernel
theorem d_X12_init_205 : decode cX12_init 205 = .ok (.bipush 100, 2) := by decide +kernel
theorem d_X12_init_207 : decode cX12_init 207 = .ok (.newarray .long, 2) := by decide +kernel
theorem d_X12_init_209 : decode cX12_init 209 = .ok (.putfield 94, 3) := by decide +kernel
theorem d_X12_init_212 : decode cX12_init 212 = .ok (.aload_n 0, 1) := by decide +kernel
theorem d_X12_init_213 : decode cX12_init 213 = .ok (.bipush 100, 2) := by decide +kernel
theorem d_X12_init_215 : decode cX12_init 215 = .ok (.newarray .long, 2) := by decide +kernel
theorem d_X12_init_217 : decode cX12_init 217 = .ok (.putfield 97, 3) := by decide +kernel
theorem d_X12_init_220 : decode cX12_init 220 = .ok (.aload_n 0, 1) := by decide +kernel
theorem d_X12_init_221 : decode cX12_init 221 = .ok (.bipush 9, 2) := by decide +kernel
theorem d_X12_init_223 : decode cX12_init 223 = .ok (.newarray .int, 2) := by decide +kernel
theorem d_X12_init_225 : decode cX12_init 225 = .ok (.putfield 100, 3) := by decide +kernel
theorem d_X12_init_228 : decode cX12_init 228 = .ok (.aload_n 0, 1) := by decide +kernel
theorem d_X12_init_229 : decode cX12_init 229 = .ok (.bipush 9, 2) := by decide +kernel
theorem d_X12_init_231 : decode cX12_init 231 = .ok (.newarray .int, 2) := by decide +kernel
theorem d_X12_init_233 : decode cX12_init 233 = .ok (.putfield 103, 3) := by decide +kernel
theorem d_X12_init_236 : decode cX12_init 236 = .ok (.aload_n 0, 1) := by decide +kernel
theorem d_X12_init_237 : decode cX12_init 237 = .ok (.bipush 8, 2) := by decide +kernel
theorem d_X12_init_239 : decode cX12_init 239 = .ok (.newarray .int, 2) := by decide +kernel
theorem d_X12_init_241 : decode cX12_init 241 = .ok (.putfield 106, 3) := by decide +kernel
theorem d_X12_init_244 : decode cX12_init 244 = .ok (.aload_n 0, 1) := by decide +kernel
theorem d_X12_init_245 : decode cX12_init 245 = .ok (.bipush 8, 2) := by decide +kernel
theorem d_X12_init_247 : decode cX12_init 247 = .ok (.newarray .int, 2) := by decide +kernel
theorem d_X12_init_249 : decode cX12_init 249 = .ok (.putfield 109, 3) := by decide +kernel
theorem d_X12_init_252 : decode cX12_init 252 = .ok (.aload_n 0, 1) := by decide +kernel
theorem d_X12_init_253 : decode cX12_init 253 = .ok (.bipush 8, 2) := by decide +kernel
theorem d_X12_init_255 : decode cX12_init 255 = .ok (.newarray .int, 2) := by decide +kernel
theorem d_X12_init_257 : decode cX12_init 257 = .ok (.putfield 112, 3) := by decide +kernel
theorem d_X12_init_260 : decode cX12_init 260 = .ok (.aload_n 0, 1) := by decide +kernel
theorem d_X12_init_261 : decode cX12_init 261 = .ok (.bipush 8, 2) := by decide +kernel
theorem d_X12_init_263 : decode cX12_init 263 = .ok (.newarray .int, 2) := by decide +kernel
theorem d_X12_init_265 : decode cX12_init 265 = .ok (.putfield 115, 3) := by decide +kernel
theorem d_X12_init_268 : decode cX12_init 268 = .ok (.aload_n 0, 1) := by decide +kernel
theorem d_X12_init_269 : decode cX12_init 269 = .ok (.bipush 64, 2) := by decide +kernel
theorem d_X12_init_271 : decode cX12_init 271 = .ok (.newarray .int, 2) := by decide +kernel
theorem d_X12_init_273 : decode cX12_init 273 = .ok (.putfield 118, 3) := by decide +kernel
theorem d_X12_init_276 : decode cX12_init 276 = .ok (.aload_n 0, 1) := by decide +kernel
theorem d_X12_init_277 : decode cX12_init 277 = .ok (.bipush 8, 2) := by decide +kernel
theorem d_X12_init_279 : decode cX12_init 279 = .ok (.newarray .int, 2) := by decide +kernel
theorem d_X12_init_281 : decode cX12_init 281 = .ok (.putfield 121, 3) := by decide +kernel
theorem d_X12_init_284 : decode cX12_init 284 = .ok (.aload_n 0, 1) := by decide +kernel
theorem d_X12_init_285 : decode cX12_init 285 = .ok (.sipush 260, 3) := by decide +kernel
theorem d_X12_init_288 : decode cX12_init 288 = .ok (.newarray .int, 2) := by decide +kernel
theorem d_X12_init_290 : decode cX12_init 290 = .ok (.putfield 124, 3) := by decide +kernel
theorem d_X12_init_293 : decode cX12_init 293 = .ok (.return_, 1) := by decide +kernel
def t_X12 (σ : sa_St) : sa_St := (sa_upR (sa_nw (sa_upR (sa_nw (sa_upR (sa_nw (sa_upR (sa_nw (sa_upR (sa_nw (sa_upR (sa_nw (sa_upR (sa_nw (sa_upR (sa_nw (sa_upR (sa_nw (sa_upR (sa_nw (sa_upR (sa_nw (sa_upR (sa_nw (sa_upR (sa_nw (sa_upR (sa_nw (sa_upR (sa_nw (sa_upR (sa_nw (sa_upR (sa_nw (sa_upI (sa_upR (sa_nw (sa_upR (sa_nw (sa_upR (sa_nw (sa_upR (sa_nw (sa_upR (sa_nw (sa_upR (sa_nw (sa_upR (sa_nw (sa_upR (sa_nw (sa_upR (sa_nw (sa_upR (sa_nw (sa_upR (sa_nw (sa_upR (sa_upR (sa_upR (sa_upR (sa_nw (sa_upR (sa_nw (sa_upR (sa_nw (sa_upR (sa_nw σ 160) 159 1 (160 + 1)) 161) 159 2 (161 + 1)) 162) 159 3 (162 + 1)) 163) 159 4 (163 + 1)) 159 5 (160 + 1)) 159 15 ((1000 + 5) + 1)) 159 16 ((1000 + 0) + 1)) 164) 159 18 (164 + 1)) 165) 159 19 (165 + 1)) 166) 159 20 (166 + 1)) 167) 159 21 (167 + 1)) 168) 159 22 (168 + 1)) 169) 159 23 (169 + 1)) 170) 159 24 (170 + 1)) 171) 159 32 (171 + 1)) 172) 159 33 (172 + 1)) 173) 159 35 (173 + 1)) 174) 159 36 (174 + 1)) 159 37 (-1)) 175) 159 38 (175 + 1)) 176) 159 39 (176 + 1)) 177) 159 42 (177 + 1)) 178) 159 45 (178 + 1)) 179) 159 46 (179 + 1)) 180) 159 47 (180 + 1)) 181) 159 49 (181 + 1)) 182) 159 50 (182 + 1)) 183) 159 51 (183 + 1)) 184) 159 52 (184 + 1)) 185) 159 62 (185 + 1)) 186) 159 66 (186 + 1)) 187) 159 67 (187 + 1)) 188) 159 68 (188 + 1)) 189) 159 70 (189 + 1)) 190) 159 71 (190 + 1)) 191) 159 72 (191 + 1))
set_option maxHeartbeats 4000000 in
set_option maxRecDepth 20000 in
theorem bc_X12 {p : Program} {l : Launch} {e : Env} {s : State} {m : MethodId} {args : Array Value} {below : List Frame} {meth : Method} {c : Code} {D : va_G} {ad : Nat → Nat} {cA : FieldType → ClassId} {A : Nat → Prop} (σ : sa_St) (had : ∀ i, i < sa_all → ad (i + 1) = ad i + 1) (C : sa_C p s m args meth c cX12_init RX12 "<init>" 1 none D ad cA A) : sa_Sc p l e s m args below meth c 1 1 D ad cA A 160 32 none (t_X12 σ) 160 σ 0 [(0, .ref (ad 159))] [] := by
  unfold t_X12
  refine sc_aload_n C d_X12_init_0 rfl 0 rfl ?_
  refine sc_objInit C q1384 q145 q146 (by decide) (Nat.le_of_ble_eq_true rfl) d_X12_init_1 ?_
  refine sc_aload_n C d_X12_init_4 rfl 0 rfl ?_
  refine sc_sipush (v := 240) C d_X12_init_5 (by decide) ?_
  refine sc_newa_byte C q225 rfl (by decide) (by decide) (by decide) (by decide) (by decide) (had _ (sa_lt (k := .inr (.byte, 240)) rfl)) d_X12_init_8 ?_
  refine sc_N (N' := 161) rfl ?_
  refine sc_putR (v := 160) C fc_X12_9 rfl rfl rfl (by decide) d_X12_init_10 ?_
  refine sc_aload_n C d_X12_init_13 rfl 0 rfl ?_
  refine sc_sipush (v := 960) C d_X12_init_14 (by decide) ?_
  refine sc_newa_byte C q225 rfl (by decide) (by decide) (by decide) (by decide) (by decide) (had _ (sa_lt (k := .inr (.byte, 960)) rfl)) d_X12_init_17 ?_
  refine sc_N (N' := 162) rfl ?_
  refine sc_putR (v := 161) C fc_X12_13 rfl rfl rfl (by decide) d_X12_init_19 ?_
  refine sc_aload_n C d_X12_init_22 rfl 0 rfl ?_
  refine sc_iconst (v := 4) C d_X12_init_23 (by decide) ?_
  refine sc_newa_int C q165 rfl (by decide) (by decide) (by decide) (by decide) (by decide) (had _ (sa_lt (k := .inr (.int, 4)) rfl)) d_X12_init_24 ?_
  refine sc_N (N' := 163) rfl ?_
  refine sc_putR (v := 162) C fc_X12_16 rfl rfl rfl (by decide) d_X12_init_26 ?_
  refine sc_aload_n C d_X12_init_29 rfl 0 rfl ?_
  refine sc_sipush (v := 128) C d_X12_init_30 (by decide) ?_
  refine sc_newa_int C q165 rfl (by decide) (by decide) (by decide) (by decide) (by decide) (had _ (sa_lt (k := .inr (.int, 128)) rfl)) d_X12_init_33 ?_
  refine sc_N (N' := 164) rfl ?_
  refine sc_putR (v := 163) C fc_X12_20 rfl rfl rfl (by decide) d_X12_init_35 ?_
  refine sc_aload_n C d_X12_init_38 rfl 0 rfl ?_
  refine sc_aload_n C d_X12_init_39 rfl 0 rfl ?_
  refine sc_getR (v := 160) C fd_X12_9 rfl rfl (by decide) rfl d_X12_init_40 ?_
  refine sc_putR (v := 160) C fc_X12_23 rfl rfl rfl (by decide) d_X12_init_43 ?_
  refine sc_aload_n C d_X12_init_46 rfl 0 rfl ?_
  refine sc_ldcS C 6 rfl d_X12_init_47 ?_
  refine sc_putR (v := (1000 + 5)) C fc_X12_28 rfl rfl rfl (by decide) d_X12_init_49 ?_
  refine sc_aload_n C d_X12_init_52 rfl 0 rfl ?_
  refine sc_ldcS C 7 rfl d_X12_init_53 ?_
  refine sc_putR (v := (1000 + 0)) C fc_X12_34 rfl rfl rfl (by decide) d_X12_init_55 ?_
  refine sc_aload_n C d_X12_init_58 rfl 0 rfl ?_
  refine sc_bipush (v := 32) C d_X12_init_59 (by decide) ?_
  refine sc_newa_int C q165 rfl (by decide) (by decide) (by decide) (by decide) (by decide) (had _ (sa_lt (k := .inr (.int, 32)) rfl)) d_X12_init_61 ?_
  refine sc_N (N' := 165) rfl ?_
  refine sc_putR (v := 164) C fc_X12_37 rfl rfl rfl (by decide) d_X12_init_63 ?_
  refine sc_aload_n C d_X12_init_66 rfl 0 rfl ?_
  refine sc_bipush (v := 32) C d_X12_init_67 (by decide) ?_
  refine sc_newa_int C q165 rfl (by decide) (by decide) (by decide) (by decide) (by decide) (had _ (sa_lt (k := .inr (.int, 32)) rfl)) d_X12_init_69 ?_
  refine sc_N (N' := 166) rfl ?_
  refine sc_putR (v := 165) C fc_X12_40 rfl rfl rfl (by decide) d_X12_init_71 ?_
  refine sc_aload_n C d_X12_init_74 rfl 0 rfl ?_
  refine sc_bipush (v := 48) C d_X12_init_75 (by decide) ?_
  refine sc_newa_int C q165 rfl (by decide) (by decide) (by decide) (by decide) (by decide) (had _ (sa_lt (k := .inr (.int, 48)) rfl)) d_X12_init_77 ?_
  refine sc_N (N' := 167) rfl ?_
  refine sc_putR (v := 166) C fc_X12_43 rfl rfl rfl (by decide) d_X12_init_79 ?_
  refine sc_aload_n C d_X12_init_82 rfl 0 rfl ?_
  refine sc_bipush (v := 48) C d_X12_init_83 (by decide) ?_
  refine sc_newa_int C q165 rfl (by decide) (by decide) (by decide) (by decide) (by decide) (had _ (sa_lt (k := .inr (.int, 48)) rfl)) d_X12_init_85 ?_
  refine sc_N (N' := 168) rfl ?_
  refine sc_putR (v := 167) C fc_X12_46 rfl rfl rfl (by decide) d_X12_init_87 ?_
  refine sc_aload_n C d_X12_init_90 rfl 0 rfl ?_
  refine sc_bipush (v := 25) C d_X12_init_91 (by decide) ?_
  refine sc_newa_int C q165 rfl (by decide) (by decide) (by decide) (by decide) (by decide) (had _ (sa_lt (k := .inr (.int, 25)) rfl)) d_X12_init_93 ?_
  refine sc_N (N' := 169) rfl ?_
  refine sc_putR (v := 168) C fc_X12_49 rfl rfl rfl (by decide) d_X12_init_95 ?_
  refine sc_aload_n C d_X12_init_98 rfl 0 rfl ?_
  refine sc_bipush (v := 6) C d_X12_init_99 (by decide) ?_
  refine sc_newa_int C q165 rfl (by decide) (by decide) (by decide) (by decide) (by decide) (had _ (sa_lt (k := .inr (.int, 6)) rfl)) d_X12_init_101 ?_
  refine sc_N (N' := 170) rfl ?_
  refine sc_putR (v := 169) C fc_X12_52 rfl rfl rfl (by decide) d_X12_init_103 ?_
  refine sc_aload_n C d_X12_init_106 rfl 0 rfl ?_
  refine sc_bipush (v := 6) C d_X12_init_107 (by decide) ?_
  refine sc_newa_int C q165 rfl (by decide) (by decide) (by decide) (by decide) (by decide) (had _ (sa_lt (k := .inr (.int, 6)) rfl)) d_X12_init_109 ?_
  refine sc_N (N' := 171) rfl ?_
  refine sc_putR (v := 170) C fc_X12_55 rfl rfl rfl (by decide) d_X12_init_111 ?_
  refine sc_aload_n C d_X12_init_114 rfl 0 rfl ?_
  refine sc_sipush (v := 240) C d_X12_init_115 (by decide) ?_
  refine sc_newa_int C q165 rfl (by decide) (by decide) (by decide) (by decide) (by decide) (had _ (sa_lt (k := .inr (.int, 240)) rfl)) d_X12_init_118 ?_
  refine sc_N (N' := 172) rfl ?_
  refine sc_putR (v := 171) C fc_X12_58 rfl rfl rfl (by decide) d_X12_init_120 ?_
  refine sc_aload_n C d_X12_init_123 rfl 0 rfl ?_
  refine sc_iconst (v := 5) C d_X12_init_124 (by decide) ?_
  refine sc_newa_int C q165 rfl (by decide) (by decide) (by decide) (by decide) (by decide) (had _ (sa_lt (k := .inr (.int, 5)) rfl)) d_X12_init_125 ?_
  refine sc_N (N' := 173) rfl ?_
  refine sc_putR (v := 172) C fc_X12_61 rfl rfl rfl (by decide) d_X12_init_127 ?_
  refine sc_aload_n C d_X12_init_130 rfl 0 rfl ?_
  refine sc_sipush (v := 260) C d_X12_init_131 (by decide) ?_
  refine sc_newa_int C q165 rfl (by decide) (by decide) (by decide) (by decide) (by decide) (had _ (sa_lt (k := .inr (.int, 260)) rfl)) d_X12_init_134 ?_
  refine sc_N (N' := 174) rfl ?_
  refine sc_putR (v := 173) C fc_X12_64 rfl rfl rfl (by decide) d_X12_init_136 ?_
  refine sc_aload_n C d_X12_init_139 rfl 0 rfl ?_
  refine sc_sipush (v := 260) C d_X12_init_140 (by decide) ?_
  refine sc_newa_int C q165 rfl (by decide) (by decide) (by decide) (by decide) (by decide) (had _ (sa_lt (k := .inr (.int, 260)) rfl)) d_X12_init_143 ?_
  refine sc_N (N' := 175) rfl ?_
  refine sc_putR (v := 174) C fc_X12_67 rfl rfl rfl (by decide) d_X12_init_145 ?_
  refine sc_aload_n C d_X12_init_148 rfl 0 rfl ?_
  refine sc_iconst (v := (-1)) C d_X12_init_149 (by decide) ?_
  refine sc_putI C fc_X12_70 rfl rfl (by decide) d_X12_init_150 ?_
  refine sc_aload_n C d_X12_init_153 rfl 0 rfl ?_
  refine sc_sipush (v := 8191) C d_X12_init_154 (by decide) ?_
  refine sc_newa_long C q382 rfl (by decide) (by decide) (by decide) (by decide) (by decide) (had _ (sa_lt (k := .inr (.long, 8191)) rfl)) d_X12_init_157 ?_
  refine sc_N (N' := 176) rfl ?_
  refine sc_putR (v := 175) C fc_X12_74 rfl rfl rfl (by decide) d_X12_init_159 ?_
  refine sc_aload_n C d_X12_init_162 rfl 0 rfl ?_
  refine sc_sipush (v := 8191) C d_X12_init_163 (by decide) ?_
  refine sc_newa_int C q165 rfl (by decide) (by decide) (by decide) (by decide) (by decide) (had _ (sa_lt (k := .inr (.int, 8191)) rfl)) d_X12_init_166 ?_
  refine sc_N (N' := 177) rfl ?_
  refine sc_putR (v := 176) C fc_X12_78 rfl rfl rfl (by decide) d_X12_init_168 ?_
  refine sc_aload_n C d_X12_init_171 rfl 0 rfl ?_
  refine sc_sipush (v := 10400) C d_X12_init_172 (by decide) ?_
  refine sc_newa_int C q165 rfl (by decide) (by decide) (by decide) (by decide) (by decide) (had _ (sa_lt (k := .inr (.int, 10400)) rfl)) d_X12_init_175 ?_
  refine sc_N (N' := 178) rfl ?_
  refine sc_putR (v := 177) C fc_X12_81 rfl rfl rfl (by decide) d_X12_init_177 ?_
  refine sc_aload_n C d_X12_init_180 rfl 0 rfl ?_
  refine sc_bipush (v := 16) C d_X12_init_181 (by decide) ?_
  refine sc_newa_int C q165 rfl (by decide) (by decide) (by decide) (by decide) (by decide) (had _ (sa_lt (k := .inr (.int, 16)) rfl)) d_X12_init_183 ?_
  refine sc_N (N' := 179) rfl ?_
  refine sc_putR (v := 178) C fc_X12_84 rfl rfl rfl (by decide) d_X12_init_185 ?_
  refine sc_aload_n C d_X12_init_188 rfl 0 rfl ?_
  refine sc_bipush (v := 16) C d_X12_init_189 (by decide) ?_
  refine sc_newa_int C q165 rfl (by decide) (by decide) (by decide) (by decide) (by decide) (had _ (sa_lt (k := .inr (.int, 16)) rfl)) d_X12_init_191 ?_
  refine sc_N (N' := 180) rfl ?_
  refine sc_putR (v := 179) C fc_X12_87 rfl rfl rfl (by decide) d_X12_init_193 ?_
  refine sc_aload_n C d_X12_init_196 rfl 0 rfl ?_
  refine sc_bipush (v := 16) C d_X12_init_197 (by decide) ?_
  refine sc_newa_boolean C q1610 rfl (by decide) (by decide) (by decide) (by decide) (by decide) (had _ (sa_lt (k := .inr (.boolean, 16)) rfl)) d_X12_init_199 ?_
  refine sc_N (N' := 181) rfl ?_
  refine sc_putR (v := 180) C fc_X12_90 rfl rfl rfl (by decide) d_X12_init_201 ?_
  refine sc_aload_n C d_X12_init_204 rfl 0 rfl ?_
  refine sc_bipush (v := 100) C d_X12_init_205 (by decide) ?_
  refine sc_newa_long C q382 rfl (by decide) (by decide) (by decide) (by decide) (by decide) (had _ (sa_lt (k := .inr (.long, 100)) rfl)) d_X12_init_207 ?_
  refine sc_N (N' := 182) rfl ?_
  refine sc_putR (v := 181) C fc_X12_94 rfl rfl rfl (by decide) d_X12_init_209 ?_
  refine sc_aload_n C d_X12_init_212 rfl 0 rfl ?_
  refine sc_bipush (v := 100) C d_X12_init_213 (by decide) ?_
  refine sc_newa_long C q382 rfl (by decide) (by decide) (by decide) (by decide) (by decide) (had _ (sa_lt (k := .inr (.long, 100)) rfl)) d_X12_init_215 ?_
  refine sc_N (N' := 183) rfl ?_
  refine sc_putR (v := 182) C fc_X12_97 rfl rfl rfl (by decide) d_X12_init_217 ?_
  refine sc_aload_n C d_X12_init_220 rfl 0 rfl ?_
  refine sc_bipush (v := 9) C d_X12_init_221 (by decide) ?_
  refine sc_newa_int C q165 rfl (by decide) (by decide) (by decide) (by decide) (by decide) (had _ (sa_lt (k := .inr (.int, 9)) rfl)) d_X12_init_223 ?_
  refine sc_N (N' := 184) rfl ?_
  refine sc_putR (v := 183) C fc_X12_100 rfl rfl rfl (by decide) d_X12_init_225 ?_
  refine sc_aload_n C d_X12_init_228 rfl 0 rfl ?_
  refine sc_bipush (v := 9) C d_X12_init_229 (by decide) ?_
  refine sc_newa_int C q165 rfl (by decide) (by decide) (by decide) (by decide) (by decide) (had _ (sa_lt (k := .inr (.int, 9)) rfl)) d_X12_init_231 ?_
  refine sc_N (N' := 185) rfl ?_
  refine sc_putR (v := 184) C fc_X12_103 rfl rfl rfl (by decide) d_X12_init_233 ?_
  refine sc_aload_n C d_X12_init_236 rfl 0 rfl ?_
  refine sc_bipush (v := 8) C d_X12_init_237 (by decide) ?_
  refine sc_newa_int C q165 rfl (by decide) (by decide) (by decide) (by decide) (by decide) (had _ (sa_lt (k := .inr (.int, 8)) rfl)) d_X12_init_239 ?_
  refine sc_N (N' := 186) rfl ?_
  refine sc_putR (v := 185) C fc_X12_106 rfl rfl rfl (by decide) d_X12_init_241 ?_
  refine sc_aload_n C d_X12_init_244 rfl 0 rfl ?_
  refine sc_bipush (v := 8) C d_X12_init_245 (by decide) ?_
  refine sc_newa_int C q165 rfl (by decide) (by decide) (by decide) (by decide) (by decide) (had _ (sa_lt (k := .inr (.int, 8)) rfl)) d_X12_init_247 ?_
  refine sc_N (N' := 187) rfl ?_
  refine sc_putR (v := 186) C fc_X12_109 rfl rfl rfl (by decide) d_X12_init_249 ?_
  refine sc_aload_n C d_X12_init_252 rfl 0 rfl ?_
  refine sc_bipush (v := 8) C d_X12_init_253 (by decide) ?_
  refine sc_newa_int C q165 rfl (by decide) (by decide) (by decide) (by decide) (by decide) (had _ (sa_lt (k := .inr (.int, 8)) rfl)) d_X12_init_255 ?_
  refine sc_N (N' := 188) rfl ?_
  refine sc_putR (v := 187) C fc_X12_112 rfl rfl rfl (by decide) d_X12_init_257 ?_
  refine sc_aload_n C d_X12_init_260 rfl 0 rfl ?_
  refine sc_bipush (v := 8) C d_X12_init_261 (by decide) ?_
  refine sc_newa_int C q165 rfl (by decide) (by decide) (by decide) (by decide) (by decide) (had _ (sa_lt (k := .inr (.int, 8)) rfl)) d_X12_init_263 ?_
  refine sc_N (N' := 189) rfl ?_
  refine sc_putR (v := 188) C fc_X12_115 rfl rfl rfl (by decide) d_X12_init_265 ?_
  refine sc_aload_n C d_X12_init_268 rfl 0 rfl ?_
  refine sc_bipush (v := 64) C d_X12_init_269 (by decide) ?_
  refine sc_newa_int C q165 rfl (by decide) (by decide) (by decide) (by decide) (by decide) (had _ (sa_lt (k := .inr (.int, 64)) rfl)) d_X12_init_271 ?_
  refine sc_N (N' := 190) rfl ?_
  refine sc_putR (v := 189) C fc_X12_118 rfl rfl rfl (by decide) d_X12_init_273 ?_
  refine sc_aload_n C d_X12_init_276 rfl 0 rfl ?_
  refine sc_bipush (v := 8) C d_X12_init_277 (by decide) ?_
  refine sc_newa_int C q165 rfl (by decide) (by decide) (by decide) (by decide) (by decide) (had _ (sa_lt (k := .inr (.int, 8)) rfl)) d_X12_init_279 ?_
  refine sc_N (N' := 191) rfl ?_
  refine sc_putR (v := 190) C fc_X12_121 rfl rfl rfl (by decide) d_X12_init_281 ?_
  refine sc_aload_n C d_X12_init_284 rfl 0 rfl ?_
  refine sc_sipush (v := 260) C d_X12_init_285 (by decide) ?_
  refine sc_newa_int C q165 rfl (by decide) (by decide) (by decide) (by decide) (by decide) (had _ (sa_lt (k := .inr (.int, 260)) rfl)) d_X12_init_288 ?_
  refine sc_N (N' := 192) rfl ?_
  refine sc_putR (v := 191) C fc_X12_124 rfl rfl rfl (by decide) d_X12_init_290 ?_
  exact sc_vret C rfl d_X12_init_293
theorem kc_X12 (σ : sa_St) : sa_Mc 1 160 32 yX12_init cX12_init 1 none (fun ad => [.ref (ad 159)]) none σ (t_X12 σ) := sa_mkc (by decide) (fun ad => Nat.le_of_ble_eq_true rfl) (fun p l e s m args below meth c D ad cA A had C => bc_X12 σ had C)
