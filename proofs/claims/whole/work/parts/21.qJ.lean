theorem q295_0 : qD 295 0 (.iload_n 0) 1 1 ∧ ((0 : Fin 4) : Nat) = 0 := by decide +kernel
theorem q295_1 : qD 295 1 (.iload_n 0) 1 2 ∧ ((0 : Fin 4) : Nat) = 0 := by decide +kernel
theorem q295_2 : qD 295 2 (.iconst 1) 1 3 ∧ Int32.ofInt (1) = (1 : Int32) := by decide +kernel
theorem q295_3 : qD 295 3 (.iushr) 1 4 := by decide +kernel
theorem q295_4 : qD 295 4 (.ldc_w 265) 3 7 ∧ inG 890 (.constant (mN 295).cls 265 (1431655765)) := by decide +kernel
theorem q295_7 : qD 295 7 (.iand) 1 8 := by decide +kernel
theorem q295_8 : qD 295 8 (.isub) 1 9 := by decide +kernel
theorem q295_9 : qD 295 9 (.istore_n 0) 1 10 ∧ ((0 : Fin 4) : Nat) = 0 ∧ 0 < mL 295 := by decide +kernel
theorem q295_10 : qD 295 10 (.iload_n 0) 1 11 ∧ ((0 : Fin 4) : Nat) = 0 := by decide +kernel
theorem q295_11 : qD 295 11 (.ldc_w 266) 3 14 ∧ inG 891 (.constant (mN 295).cls 266 (858993459)) := by decide +kernel
theorem q295_14 : qD 295 14 (.iand) 1 15 := by decide +kernel
theorem q295_15 : qD 295 15 (.iload_n 0) 1 16 ∧ ((0 : Fin 4) : Nat) = 0 := by decide +kernel
theorem q295_16 : qD 295 16 (.iconst 2) 1 17 ∧ Int32.ofInt (2) = (2 : Int32) := by decide +kernel
theorem q295_17 : qD 295 17 (.iushr) 1 18 := by decide +kernel
theorem q295_18 : qD 295 18 (.ldc_w 266) 3 21 ∧ inG 891 (.constant (mN 295).cls 266 (858993459)) := by decide +kernel
theorem q295_21 : qD 295 21 (.iand) 1 22 := by decide +kernel
theorem q295_22 : qD 295 22 (.iadd) 1 23 := by decide +kernel
theorem q295_23 : qD 295 23 (.istore_n 0) 1 24 ∧ ((0 : Fin 4) : Nat) = 0 ∧ 0 < mL 295 := by decide +kernel
theorem q295_24 : qD 295 24 (.iload_n 0) 1 25 ∧ ((0 : Fin 4) : Nat) = 0 := by decide +kernel
theorem q295_25 : qD 295 25 (.iload_n 0) 1 26 ∧ ((0 : Fin 4) : Nat) = 0 := by decide +kernel
theorem q295_26 : qD 295 26 (.iconst 4) 1 27 ∧ Int32.ofInt (4) = (4 : Int32) := by decide +kernel
theorem q295_27 : qD 295 27 (.iushr) 1 28 := by decide +kernel
theorem q295_28 : qD 295 28 (.iadd) 1 29 := by decide +kernel
theorem q295_29 : qD 295 29 (.ldc_w 267) 3 32 ∧ inG 892 (.constant (mN 295).cls 267 (252645135)) := by decide +kernel
theorem q295_32 : qD 295 32 (.iand) 1 33 := by decide +kernel
theorem q295_33 : qD 295 33 (.istore_n 0) 1 34 ∧ ((0 : Fin 4) : Nat) = 0 ∧ 0 < mL 295 := by decide +kernel
theorem q295_34 : qD 295 34 (.iload_n 0) 1 35 ∧ ((0 : Fin 4) : Nat) = 0 := by decide +kernel
theorem q295_35 : qD 295 35 (.iload_n 0) 1 36 ∧ ((0 : Fin 4) : Nat) = 0 := by decide +kernel
theorem q295_36 : qD 295 36 (.bipush 8) 2 38 ∧ (Int8.ofInt (8)).toInt32 = (8 : Int32) := by decide +kernel
theorem q295_38 : qD 295 38 (.iushr) 1 39 := by decide +kernel
theorem q295_39 : qD 295 39 (.iadd) 1 40 := by decide +kernel
theorem q295_40 : qD 295 40 (.istore_n 0) 1 41 ∧ ((0 : Fin 4) : Nat) = 0 ∧ 0 < mL 295 := by decide +kernel
theorem q295_41 : qD 295 41 (.iload_n 0) 1 42 ∧ ((0 : Fin 4) : Nat) = 0 := by decide +kernel
theorem q295_42 : qD 295 42 (.iload_n 0) 1 43 ∧ ((0 : Fin 4) : Nat) = 0 := by decide +kernel
theorem q295_43 : qD 295 43 (.bipush 16) 2 45 ∧ (Int8.ofInt (16)).toInt32 = (16 : Int32) := by decide +kernel
theorem q295_45 : qD 295 45 (.iushr) 1 46 := by decide +kernel
theorem q295_46 : qD 295 46 (.iadd) 1 47 := by decide +kernel
theorem q295_47 : qD 295 47 (.istore_n 0) 1 48 ∧ ((0 : Fin 4) : Nat) = 0 ∧ 0 < mL 295 := by decide +kernel
theorem q295_48 : qD 295 48 (.iload_n 0) 1 49 ∧ ((0 : Fin 4) : Nat) = 0 := by decide +kernel
theorem q295_49 : qD 295 49 (.bipush 63) 2 51 ∧ (Int8.ofInt (63)).toInt32 = (63 : Int32) := by decide +kernel
theorem q295_51 : qD 295 51 (.iand) 1 52 := by decide +kernel
theorem q295_52 : qD 295 52 (.ireturn) 1 53 ∧ mR 295 = some .int := by decide +kernel
theorem q301_0 : qD 301 0 (.aload_n 0) 1 1 ∧ ((0 : Fin 4) : Nat) = 0 := by decide +kernel
theorem q301_1 : qD 301 1 (.getfield 9) 3 4 ∧ inG 1954 (.fieldLink (mN 301).cls 9 "java/lang/String" "value" "[B") := by decide +kernel
theorem q301_4 : qD 301 4 (.arraylength) 1 5 := by decide +kernel
theorem q301_5 : qD 301 5 (.aload_n 0) 1 6 ∧ ((0 : Fin 4) : Nat) = 0 := by decide +kernel
theorem q301_6 : qD 301 6 (.invokevirtual 335) 3 9 ∧ inG 453 (.methodLink (mN 301).cls 335 (mN 305)) ∧ mL 305 ≤ 41 ∧ (mN 305).cls = "java/lang/String" := by decide +kernel
theorem q301_9 : qD 301 9 (.ishr) 1 10 := by decide +kernel
theorem q301_10 : qD 301 10 (.ireturn) 1 11 ∧ mR 301 = some .int := by decide +kernel
theorem q302_0 : qD 302 0 (.aload_n 0) 1 1 ∧ ((0 : Fin 4) : Nat) = 0 := by decide +kernel
theorem q302_1 : qD 302 1 (.invokevirtual 492) 3 4 ∧ inG 472 (.methodLink (mN 302).cls 492 (mN 306)) ∧ mL 306 ≤ 41 ∧ (mN 306).cls = "java/lang/String" := by decide +kernel
theorem q302_4 : qJ 302 4 (.ifCond .eq 12) 7 (12) 16 := by decide +kernel
theorem q302_7 : qD 302 7 (.aload_n 0) 1 8 ∧ ((0 : Fin 4) : Nat) = 0 := by decide +kernel
theorem q302_8 : qD 302 8 (.getfield 9) 3 11 ∧ inG 1954 (.fieldLink (mN 302).cls 9 "java/lang/String" "value" "[B") := by decide +kernel
theorem q302_11 : qD 302 11 (.iload_n 1) 1 12 ∧ ((1 : Fin 4) : Nat) = 1 := by decide +kernel
theorem q302_12 : qD 302 12 (.invokestatic 495) 3 15 ∧ qI 302 495 309 1474 := by decide +kernel
theorem q302_15 : qD 302 15 (.ireturn) 1 16 ∧ mR 302 = some .char := by decide +kernel
theorem q302_16 : qD 302 16 (.aload_n 0) 1 17 ∧ ((0 : Fin 4) : Nat) = 0 := by decide +kernel
theorem q302_17 : qD 302 17 (.getfield 9) 3 20 ∧ inG 1954 (.fieldLink (mN 302).cls 9 "java/lang/String" "value" "[B") := by decide +kernel
theorem q302_20 : qD 302 20 (.iload_n 1) 1 21 ∧ ((1 : Fin 4) : Nat) = 1 := by decide +kernel
theorem q302_21 : qD 302 21 (.invokestatic 498) 3 24 ∧ qI 302 498 319 1483 := by decide +kernel
theorem q302_24 : qD 302 24 (.ireturn) 1 25 ∧ mR 302 = some .char := by decide +kernel
theorem q303_0 : qD 303 0 (.aload_n 0) 1 1 ∧ ((0 : Fin 4) : Nat) = 0 := by decide +kernel
theorem q303_1 : qD 303 1 (.iload_n 1) 1 2 ∧ ((1 : Fin 4) : Nat) = 1 := by decide +kernel
theorem q303_2 : qD 303 2 (.iconst 0) 1 3 ∧ Int32.ofInt (0) = (0 : Int32) := by decide +kernel
theorem q303_3 : qD 303 3 (.invokevirtual 633) 3 6 ∧ inG 468 (.methodLink (mN 303).cls 633 (mN 304)) ∧ mL 304 ≤ 41 ∧ (mN 304).cls = "java/lang/String" := by decide +kernel
theorem q303_6 : qD 303 6 (.ireturn) 1 7 ∧ mR 303 = some .int := by decide +kernel
theorem q304_0 : qD 304 0 (.aload_n 0) 1 1 ∧ ((0 : Fin 4) : Nat) = 0 := by decide +kernel
theorem q304_1 : qD 304 1 (.invokevirtual 492) 3 4 ∧ inG 472 (.methodLink (mN 304).cls 492 (mN 306)) ∧ mL 306 ≤ 41 ∧ (mN 306).cls = "java/lang/String" := by decide +kernel
theorem q304_4 : qJ 304 4 (.ifCond .eq 19) 7 (19) 23 := by decide +kernel
theorem q304_7 : qD 304 7 (.aload_n 0) 1 8 ∧ ((0 : Fin 4) : Nat) = 0 := by decide +kernel
theorem q304_8 : qD 304 8 (.getfield 9) 3 11 ∧ inG 1954 (.fieldLink (mN 304).cls 9 "java/lang/String" "value" "[B") := by decide +kernel
theorem q304_11 : qD 304 11 (.iload_n 1) 1 12 ∧ ((1 : Fin 4) : Nat) = 1 := by decide +kernel
theorem q304_12 : qD 304 12 (.iload_n 2) 1 13 ∧ ((2 : Fin 4) : Nat) = 2 := by decide +kernel
theorem q304_13 : qD 304 13 (.aload_n 0) 1 14 ∧ ((0 : Fin 4) : Nat) = 0 := by decide +kernel
theorem q304_14 : qD 304 14 (.invokevirtual 505) 3 17 ∧ inG 476 (.methodLink (mN 304).cls 505 (mN 301)) ∧ mL 301 ≤ 41 ∧ (mN 301).cls = "java/lang/String" := by decide +kernel
theorem q304_17 : qD 304 17 (.invokestatic 637) 3 20 ∧ qI 304 637 311 477 := by decide +kernel
theorem q304_20 : qJ 304 20 (.goto 16) 23 (16) 36 := by decide +kernel
theorem q304_23 : qD 304 23 (.aload_n 0) 1 24 ∧ ((0 : Fin 4) : Nat) = 0 := by decide +kernel
theorem q304_24 : qD 304 24 (.getfield 9) 3 27 ∧ inG 1954 (.fieldLink (mN 304).cls 9 "java/lang/String" "value" "[B") := by decide +kernel
theorem q304_27 : qD 304 27 (.iload_n 1) 1 28 ∧ ((1 : Fin 4) : Nat) = 1 := by decide +kernel
theorem q304_28 : qD 304 28 (.iload_n 2) 1 29 ∧ ((2 : Fin 4) : Nat) = 2 := by decide +kernel
theorem q304_29 : qD 304 29 (.aload_n 0) 1 30 ∧ ((0 : Fin 4) : Nat) = 0 := by decide +kernel
theorem q304_30 : qD 304 30 (.invokevirtual 505) 3 33 ∧ inG 476 (.methodLink (mN 304).cls 505 (mN 301)) ∧ mL 301 ≤ 41 ∧ (mN 301).cls = "java/lang/String" := by decide +kernel
theorem q304_33 : qD 304 33 (.invokestatic 640) 3 36 ∧ qI 304 640 315 492 := by decide +kernel
theorem q304_36 : qD 304 36 (.ireturn) 1 37 ∧ mR 304 = some .int := by decide +kernel
theorem q305_0 : qD 305 0 (.getstatic 38) 3 3 ∧ inG 457 (.fieldLink (mN 305).cls 38 RJ0 "COMPACT_STRINGS" "Z") := by decide +kernel
theorem q305_3 : qJ 305 3 (.ifCond .eq 10) 6 (10) 13 := by decide +kernel
theorem q305_6 : qD 305 6 (.aload_n 0) 1 7 ∧ ((0 : Fin 4) : Nat) = 0 := by decide +kernel
theorem q305_7 : qD 305 7 (.getfield 15) 3 10 ∧ inG 1955 (.fieldLink (mN 305).cls 15 "java/lang/String" "coder" "B") := by decide +kernel
theorem q305_10 : qJ 305 10 (.goto 4) 13 (4) 14 := by decide +kernel
theorem q305_13 : qD 305 13 (.iconst 1) 1 14 ∧ Int32.ofInt (1) = (1 : Int32) := by decide +kernel
theorem q305_14 : qD 305 14 (.ireturn) 1 15 ∧ mR 305 = some .byte := by decide +kernel
theorem q306_0 : qD 306 0 (.getstatic 38) 3 3 ∧ inG 457 (.fieldLink (mN 306).cls 38 RJ0 "COMPACT_STRINGS" "Z") := by decide +kernel
theorem q306_3 : qJ 306 3 (.ifCond .eq 14) 6 (14) 17 := by decide +kernel
theorem q306_6 : qD 306 6 (.aload_n 0) 1 7 ∧ ((0 : Fin 4) : Nat) = 0 := by decide +kernel
theorem q306_7 : qD 306 7 (.getfield 15) 3 10 ∧ inG 1955 (.fieldLink (mN 306).cls 15 "java/lang/String" "coder" "B") := by decide +kernel
theorem q306_10 : qJ 306 10 (.ifCond .ne 7) 13 (7) 17 := by decide +kernel
theorem q306_13 : qD 306 13 (.iconst 1) 1 14 ∧ Int32.ofInt (1) = (1 : Int32) := by decide +kernel
theorem q306_14 : qJ 306 14 (.goto 4) 17 (4) 18 := by decide +kernel
theorem q306_17 : qD 306 17 (.iconst 0) 1 18 ∧ Int32.ofInt (0) = (0 : Int32) := by decide +kernel
theorem q306_18 : qD 306 18 (.ireturn) 1 19 ∧ mR 306 = some .boolean := by decide +kernel
theorem q307_0 : qD 307 0 (.iload_n 0) 1 1 ∧ ((0 : Fin 4) : Nat) = 0 := by decide +kernel
theorem q307_1 : qD 307 1 (.iload_n 1) 1 2 ∧ ((1 : Fin 4) : Nat) = 1 := by decide +kernel
theorem q307_2 : qD 307 2 (.getstatic 1053) 3 5 ∧ inG 510 (.fieldLink (mN 307).cls 1053 RJ3 "SIOOBE_FORMATTER" "Ljava/util/function/BiFunction;") := by decide +kernel
theorem q307_5 : qD 307 5 (.invokestatic 1059) 3 8 ∧ qI 307 1059 323 1480 := by decide +kernel
theorem q307_8 : qD 307 8 (.pop) 1 9 := by decide +kernel
theorem q307_9 : qD 307 9 (.return_) 1 10 ∧ mR 307 = none := by decide +kernel
theorem q309_0 : qD 309 0 (.iload_n 1) 1 1 ∧ ((1 : Fin 4) : Nat) = 1 := by decide +kernel
theorem q309_1 : qD 309 1 (.aload_n 0) 1 2 ∧ ((0 : Fin 4) : Nat) = 0 := by decide +kernel
theorem q309_2 : qD 309 2 (.arraylength) 1 3 := by decide +kernel
theorem q309_3 : qD 309 3 (.invokestatic 9) 3 6 ∧ qI 309 9 307 1477 := by decide +kernel
theorem q309_6 : qD 309 6 (.aload_n 0) 1 7 ∧ ((0 : Fin 4) : Nat) = 0 := by decide +kernel
theorem q309_7 : qD 309 7 (.iload_n 1) 1 8 ∧ ((1 : Fin 4) : Nat) = 1 := by decide +kernel
theorem q309_8 : qD 309 8 (.baload) 1 9 := by decide +kernel
theorem q309_9 : qD 309 9 (.sipush 255) 3 12 ∧ (Int16.ofInt (255)).toInt32 = (255 : Int32) := by decide +kernel
theorem q309_12 : qD 309 12 (.iand) 1 13 := by decide +kernel
theorem q309_13 : qD 309 13 (.i2c) 1 14 := by decide +kernel
theorem q309_14 : qD 309 14 (.ireturn) 1 15 ∧ mR 309 = some .char := by decide +kernel
theorem q310_0 : qD 310 0 (.iload_n 0) 1 1 ∧ ((0 : Fin 4) : Nat) = 0 := by decide +kernel
theorem q310_1 : qJ 310 1 (.ifCond .lt 14) 4 (14) 15 := by decide +kernel
theorem q310_4 : qD 310 4 (.iload_n 0) 1 5 ∧ ((0 : Fin 4) : Nat) = 0 := by decide +kernel
theorem q310_5 : qD 310 5 (.sipush 255) 3 8 ∧ (Int16.ofInt (255)).toInt32 = (255 : Int32) := by decide +kernel
theorem q310_8 : qJ 310 8 (.if_icmp .gt 7) 11 (7) 15 := by decide +kernel
theorem q310_11 : qD 310 11 (.iconst 1) 1 12 ∧ Int32.ofInt (1) = (1 : Int32) := by decide +kernel
theorem q310_12 : qJ 310 12 (.goto 4) 15 (4) 16 := by decide +kernel
theorem q310_15 : qD 310 15 (.iconst 0) 1 16 ∧ Int32.ofInt (0) = (0 : Int32) := by decide +kernel
theorem q310_16 : qD 310 16 (.ireturn) 1 17 ∧ mR 310 = some .boolean := by decide +kernel
theorem q311_0 : qD 311 0 (.iload_n 1) 1 1 ∧ ((1 : Fin 4) : Nat) = 1 := by decide +kernel
theorem q311_1 : qD 311 1 (.invokestatic 88) 3 4 ∧ qI 311 88 310 480 := by decide +kernel
theorem q311_4 : qJ 311 4 (.ifCond .ne 5) 7 (5) 9 := by decide +kernel
theorem q311_7 : qD 311 7 (.iconst (-1)) 1 8 ∧ Int32.ofInt (-1) = (-1 : Int32) := by decide +kernel
theorem q311_8 : qD 311 8 (.ireturn) 1 9 ∧ mR 311 = some .int := by decide +kernel
theorem q311_9 : qD 311 9 (.iload_n 2) 1 10 ∧ ((2 : Fin 4) : Nat) = 2 := by decide +kernel
theorem q311_10 : qD 311 10 (.iconst 0) 1 11 ∧ Int32.ofInt (0) = (0 : Int32) := by decide +kernel
theorem q311_11 : qD 311 11 (.invokestatic 92) 3 14 ∧ inG 483 (.methodLink (mN 311).cls 92 Lib.Math.max.name) := by decide +kernel
theorem q311_14 : qD 311 14 (.istore_n 2) 1 15 ∧ ((2 : Fin 4) : Nat) = 2 ∧ 2 < mL 311 := by decide +kernel
theorem q311_15 : qD 311 15 (.iload_n 3) 1 16 ∧ ((3 : Fin 4) : Nat) = 3 := by decide +kernel
theorem q311_16 : qD 311 16 (.aload_n 0) 1 17 ∧ ((0 : Fin 4) : Nat) = 0 := by decide +kernel
theorem q311_17 : qD 311 17 (.arraylength) 1 18 := by decide +kernel
theorem q311_18 : qD 311 18 (.invokestatic 38) 3 21 ∧ inG 486 (.methodLink (mN 311).cls 38 Lib.Math.min.name) := by decide +kernel
theorem q311_21 : qD 311 21 (.istore_n 3) 1 22 ∧ ((3 : Fin 4) : Nat) = 3 ∧ 3 < mL 311 := by decide +kernel
theorem q311_22 : qD 311 22 (.iload_n 2) 1 23 ∧ ((2 : Fin 4) : Nat) = 2 := by decide +kernel
theorem q311_23 : qD 311 23 (.iload_n 3) 1 24 ∧ ((3 : Fin 4) : Nat) = 3 := by decide +kernel
theorem q311_24 : qJ 311 24 (.if_icmp .lt 5) 27 (5) 29 := by decide +kernel
theorem q311_27 : qD 311 27 (.iconst (-1)) 1 28 ∧ Int32.ofInt (-1) = (-1 : Int32) := by decide +kernel
theorem q311_28 : qD 311 28 (.ireturn) 1 29 ∧ mR 311 = some .int := by decide +kernel
theorem q311_29 : qD 311 29 (.aload_n 0) 1 30 ∧ ((0 : Fin 4) : Nat) = 0 := by decide +kernel
theorem q311_30 : qD 311 30 (.iload_n 1) 1 31 ∧ ((1 : Fin 4) : Nat) = 1 := by decide +kernel
theorem q311_31 : qD 311 31 (.iload_n 2) 1 32 ∧ ((2 : Fin 4) : Nat) = 2 := by decide +kernel
theorem q311_32 : qD 311 32 (.iload_n 3) 1 33 ∧ ((3 : Fin 4) : Nat) = 3 := by decide +kernel
theorem q311_33 : qD 311 33 (.invokestatic 95) 3 36 ∧ qI 311 95 312 489 := by decide +kernel
theorem q311_36 : qD 311 36 (.ireturn) 1 37 ∧ mR 311 = some .int := by decide +kernel
theorem q312_0 : qD 312 0 (.iload_n 1) 1 1 ∧ ((1 : Fin 4) : Nat) = 1 := by decide +kernel
theorem q312_1 : qD 312 1 (.i2b) 1 2 := by decide +kernel
theorem q312_2 : qD 312 2 (.istore 4) 2 4 ∧ 4 < mL 312 := by decide +kernel
theorem q312_4 : qD 312 4 (.iload_n 2) 1 5 ∧ ((2 : Fin 4) : Nat) = 2 := by decide +kernel
theorem q312_5 : qD 312 5 (.istore 5) 2 7 ∧ 5 < mL 312 := by decide +kernel
theorem q312_7 : qD 312 7 (.iload 5) 2 9 := by decide +kernel
theorem q312_9 : qD 312 9 (.iload_n 3) 1 10 ∧ ((3 : Fin 4) : Nat) = 3 := by decide +kernel
theorem q312_10 : qJ 312 10 (.if_icmp .ge 21) 13 (21) 31 := by decide +kernel
theorem q312_13 : qD 312 13 (.aload_n 0) 1 14 ∧ ((0 : Fin 4) : Nat) = 0 := by decide +kernel
theorem q312_14 : qD 312 14 (.iload 5) 2 16 := by decide +kernel
theorem q312_16 : qD 312 16 (.baload) 1 17 := by decide +kernel
theorem q312_17 : qD 312 17 (.iload 4) 2 19 := by decide +kernel
theorem q312_19 : qJ 312 19 (.if_icmp .ne 6) 22 (6) 25 := by decide +kernel
theorem q312_22 : qD 312 22 (.iload 5) 2 24 := by decide +kernel
theorem q312_24 : qD 312 24 (.ireturn) 1 25 ∧ mR 312 = some .int := by decide +kernel
theorem q312_25 : qD 312 25 (.iinc 5 1) 3 28 ∧ 5 < mL 312 ∧ Int32.ofInt (1) = (1 : Int32) := by decide +kernel
theorem q312_28 : qJ 312 28 (.goto (-21)) 31 (-21) 7 := by decide +kernel
theorem q312_31 : qD 312 31 (.iconst (-1)) 1 32 ∧ Int32.ofInt (-1) = (-1 : Int32) := by decide +kernel
theorem q312_32 : qD 312 32 (.ireturn) 1 33 ∧ mR 312 = some .int := by decide +kernel
theorem q322_0 : qD 322 0 (.iconst 0) 1 1 ∧ Int32.ofInt (0) = (0 : Int32) := by decide +kernel
theorem q322_1 : qD 322 1 (.istore_n 2) 1 2 ∧ ((2 : Fin 4) : Nat) = 2 ∧ 2 < mL 322 := by decide +kernel
theorem q322_2 : qD 322 2 (.aload_n 0) 1 3 ∧ ((0 : Fin 4) : Nat) = 0 := by decide +kernel
theorem q322_3 : qD 322 3 (.arraylength) 1 4 := by decide +kernel
theorem q322_4 : qD 322 4 (.istore_n 3) 1 5 ∧ ((3 : Fin 4) : Nat) = 3 ∧ 3 < mL 322 := by decide +kernel
theorem q322_5 : qD 322 5 (.iload_n 2) 1 6 ∧ ((2 : Fin 4) : Nat) = 2 := by decide +kernel
theorem q322_6 : qD 322 6 (.iload_n 3) 1 7 ∧ ((3 : Fin 4) : Nat) = 3 := by decide +kernel
theorem q322_7 : qJ 322 7 (.if_icmp .ge 13) 10 (13) 20 := by decide +kernel
theorem q322_10 : qD 322 10 (.aload_n 0) 1 11 ∧ ((0 : Fin 4) : Nat) = 0 := by decide +kernel
theorem q322_11 : qD 322 11 (.iload_n 2) 1 12 ∧ ((2 : Fin 4) : Nat) = 2 := by decide +kernel
theorem q322_12 : qD 322 12 (.iload_n 1) 1 13 ∧ ((1 : Fin 4) : Nat) = 1 := by decide +kernel
theorem q322_13 : qD 322 13 (.iastore) 1 14 := by decide +kernel
theorem q322_14 : qD 322 14 (.iinc 2 1) 3 17 ∧ 2 < mL 322 ∧ Int32.ofInt (1) = (1 : Int32) := by decide +kernel
theorem q322_17 : qJ 322 17 (.goto (-12)) 20 (-12) 5 := by decide +kernel
theorem q322_20 : qD 322 20 (.return_) 1 21 ∧ mR 322 = none := by decide +kernel
theorem q323_0 : qD 323 0 (.iload_n 0) 1 1 ∧ ((0 : Fin 4) : Nat) = 0 := by decide +kernel
theorem q323_1 : qJ 323 1 (.ifCond .lt 8) 4 (8) 9 := by decide +kernel
theorem q323_4 : qD 323 4 (.iload_n 0) 1 5 ∧ ((0 : Fin 4) : Nat) = 0 := by decide +kernel
theorem q323_5 : qD 323 5 (.iload_n 1) 1 6 ∧ ((1 : Fin 4) : Nat) = 1 := by decide +kernel
theorem q323_6 : qJ 323 6 (.if_icmp .lt 10) 9 (10) 16 := by decide +kernel
theorem q323_9 : qD 323 9 (.aload_n 2) 1 10 ∧ ((2 : Fin 4) : Nat) = 2 := by decide +kernel
theorem q323_10 : qD 323 10 (.iload_n 0) 1 11 ∧ ((0 : Fin 4) : Nat) = 0 := by decide +kernel
theorem q323_11 : qD 323 11 (.iload_n 1) 1 12 ∧ ((1 : Fin 4) : Nat) = 1 := by decide +kernel
theorem q323_16 : qD 323 16 (.iload_n 0) 1 17 ∧ ((0 : Fin 4) : Nat) = 0 := by decide +kernel
theorem q323_17 : qD 323 17 (.ireturn) 1 18 ∧ mR 323 = some .int := by decide +kernel
