theorem q228_18 : qD 228 18 (.aload_n 0) 1 19 ∧ ((0 : Fin 4) : Nat) = 0 := by decide +kernel
theorem q228_19 : qG 228 19 74 22 11 37 1302 2 := by decide +kernel
theorem q228_22 : qD 228 22 (.iload_n 1) 1 23 ∧ ((1 : Fin 4) : Nat) = 1 := by decide +kernel
theorem q228_23 : qD 228 23 (.aload_n 0) 1 24 ∧ ((0 : Fin 4) : Nat) = 0 := by decide +kernel
theorem q228_24 : qG 228 24 74 27 11 37 1302 2 := by decide +kernel
theorem q228_27 : qD 228 27 (.iload_n 1) 1 28 ∧ ((1 : Fin 4) : Nat) = 1 := by decide +kernel
theorem q228_28 : qD 228 28 (.sipush 214) 3 31 ∧ (Int16.ofInt (214)).toInt32 = (214 : Int32) := by decide +kernel
theorem q228_31 : qD 228 31 (.iadd) 1 32 := by decide +kernel
theorem q228_32 : qD 228 32 (.iaload) 1 33 := by decide +kernel
theorem q228_33 : qD 228 33 (.iastore) 1 34 := by decide +kernel
theorem q228_34 : qD 228 34 (.iinc 1 1) 3 37 ∧ 1 < mL 228 ∧ Int32.ofInt (1) = (1 : Int32) := by decide +kernel
theorem q228_37 : qJ 228 37 (.goto (-26)) 40 (-26) 11 := by decide +kernel
theorem q228_40 : qD 228 40 (.aload_n 0) 1 41 ∧ ((0 : Fin 4) : Nat) = 0 := by decide +kernel
theorem q228_41 : qD 228 41 (.dup) 1 42 := by decide +kernel
theorem q228_42 : qG 228 42 297 45 11 38 1303 0 := by decide +kernel
theorem q228_45 : qD 228 45 (.iconst 1) 1 46 ∧ Int32.ofInt (1) = (1 : Int32) := by decide +kernel
theorem q228_46 : qD 228 46 (.isub) 1 47 := by decide +kernel
theorem q228_47 : qP 228 47 297 50 11 38 1303 0 := by decide +kernel
theorem q228_50 : qD 228 50 (.iconst 0) 1 51 ∧ Int32.ofInt (0) = (0 : Int32) := by decide +kernel
theorem q228_51 : qD 228 51 (.istore_n 1) 1 52 ∧ ((1 : Fin 4) : Nat) = 1 ∧ 1 < mL 228 := by decide +kernel
theorem q228_52 : qD 228 52 (.iload_n 1) 1 53 ∧ ((1 : Fin 4) : Nat) = 1 := by decide +kernel
theorem q228_53 : qD 228 53 (.sipush 214) 3 56 ∧ (Int16.ofInt (214)).toInt32 = (214 : Int32) := by decide +kernel
theorem q228_56 : qJ 228 56 (.if_icmp .ge 30) 59 (30) 86 := by decide +kernel
theorem q228_59 : qD 228 59 (.aload_n 0) 1 60 ∧ ((0 : Fin 4) : Nat) = 0 := by decide +kernel
theorem q228_60 : qG 228 60 74 63 11 37 1302 2 := by decide +kernel
theorem q228_63 : qD 228 63 (.sipush 214) 3 66 ∧ (Int16.ofInt (214)).toInt32 = (214 : Int32) := by decide +kernel
theorem q228_66 : qD 228 66 (.aload_n 0) 1 67 ∧ ((0 : Fin 4) : Nat) = 0 := by decide +kernel
theorem q228_67 : qG 228 67 297 70 11 38 1303 0 := by decide +kernel
theorem q228_70 : qD 228 70 (.imul) 1 71 := by decide +kernel
theorem q228_71 : qD 228 71 (.iload_n 1) 1 72 ∧ ((1 : Fin 4) : Nat) = 1 := by decide +kernel
theorem q228_72 : qD 228 72 (.iadd) 1 73 := by decide +kernel
theorem q228_73 : qD 228 73 (.aload_n 0) 1 74 ∧ ((0 : Fin 4) : Nat) = 0 := by decide +kernel
theorem q228_74 : qG 228 74 61 77 11 32 1297 2 := by decide +kernel
theorem q228_77 : qD 228 77 (.iload_n 1) 1 78 ∧ ((1 : Fin 4) : Nat) = 1 := by decide +kernel
theorem q228_78 : qD 228 78 (.iaload) 1 79 := by decide +kernel
theorem q228_79 : qD 228 79 (.iastore) 1 80 := by decide +kernel
theorem q228_80 : qD 228 80 (.iinc 1 1) 3 83 ∧ 1 < mL 228 ∧ Int32.ofInt (1) = (1 : Int32) := by decide +kernel
theorem q228_83 : qJ 228 83 (.goto (-31)) 86 (-31) 52 := by decide +kernel
theorem q228_86 : qD 228 86 (.aload_n 0) 1 87 ∧ ((0 : Fin 4) : Nat) = 0 := by decide +kernel
theorem q228_87 : qD 228 87 (.dup) 1 88 := by decide +kernel
theorem q228_88 : qG 228 88 297 91 11 38 1303 0 := by decide +kernel
theorem q228_91 : qD 228 91 (.iconst 1) 1 92 ∧ Int32.ofInt (1) = (1 : Int32) := by decide +kernel
theorem q228_92 : qD 228 92 (.iadd) 1 93 := by decide +kernel
theorem q228_93 : qP 228 93 297 96 11 38 1303 0 := by decide +kernel
theorem q228_96 : qD 228 96 (.return_) 1 97 ∧ mR 228 = none := by decide +kernel
theorem q229_0 : qD 229 0 (.aload_n 0) 1 1 ∧ ((0 : Fin 4) : Nat) = 0 := by decide +kernel
theorem q229_1 : qD 229 1 (.iload_n 2) 1 2 ∧ ((2 : Fin 4) : Nat) = 2 := by decide +kernel
theorem q229_2 : qD 229 2 (.invokevirtual 349) 3 5 ∧ qI 229 349 210 1618 := by decide +kernel
theorem q229_5 : qJ 229 5 (.ifCond .eq 18) 8 (18) 23 := by decide +kernel
theorem q229_8 : qD 229 8 (.aload_n 1) 1 9 ∧ ((1 : Fin 4) : Nat) = 1 := by decide +kernel
theorem q229_9 : qD 229 9 (.bipush 28) 2 11 ∧ (Int8.ofInt (28)).toInt32 = (28 : Int32) := by decide +kernel
theorem q229_11 : qD 229 11 (.iaload) 1 12 := by decide +kernel
theorem q229_12 : qD 229 12 (.iload_n 2) 1 13 ∧ ((2 : Fin 4) : Nat) = 2 := by decide +kernel
theorem q229_13 : qD 229 13 (.invokestatic 223) 3 16 ∧ qI 229 223 171 1490 := by decide +kernel
theorem q229_16 : qJ 229 16 (.ifCond .ne 7) 19 (7) 23 := by decide +kernel
theorem q229_19 : qD 229 19 (.iconst 1) 1 20 ∧ Int32.ofInt (1) = (1 : Int32) := by decide +kernel
theorem q229_20 : qJ 229 20 (.goto 4) 23 (4) 24 := by decide +kernel
theorem q229_23 : qD 229 23 (.iconst 0) 1 24 ∧ Int32.ofInt (0) = (0 : Int32) := by decide +kernel
theorem q229_24 : qD 229 24 (.ireturn) 1 25 ∧ mR 229 = some .boolean := by decide +kernel
theorem q230_0 : qD 230 0 (.aload_n 0) 1 1 ∧ ((0 : Fin 4) : Nat) = 0 := by decide +kernel
theorem q230_1 : qD 230 1 (.iconst 0) 1 2 ∧ Int32.ofInt (0) = (0 : Int32) := by decide +kernel
theorem q230_2 : qP 230 2 90 5 11 0 1265 0 := by decide +kernel
theorem q230_5 : qD 230 5 (.aload_n 0) 1 6 ∧ ((0 : Fin 4) : Nat) = 0 := by decide +kernel
theorem q230_6 : qD 230 6 (.aload_n 0) 1 7 ∧ ((0 : Fin 4) : Nat) = 0 := by decide +kernel
theorem q230_7 : qG 230 7 61 10 11 32 1297 2 := by decide +kernel
theorem q230_10 : qD 230 10 (.iload_n 1) 1 11 ∧ ((1 : Fin 4) : Nat) = 1 := by decide +kernel
theorem q230_11 : qD 230 11 (.invokevirtual 357) 3 14 ∧ qI 230 357 229 1635 := by decide +kernel
theorem q230_14 : qJ 230 14 (.ifCond .ne 5) 17 (5) 19 := by decide +kernel
theorem q230_17 : qD 230 17 (.iconst (-1)) 1 18 ∧ Int32.ofInt (-1) = (-1 : Int32) := by decide +kernel
theorem q230_18 : qD 230 18 (.ireturn) 1 19 ∧ mR 230 = some .int := by decide +kernel
theorem q230_19 : qD 230 19 (.aload_n 0) 1 20 ∧ ((0 : Fin 4) : Nat) = 0 := by decide +kernel
theorem q230_20 : qD 230 20 (.invokevirtual 360) 3 23 ∧ qI 230 360 228 1639 := by decide +kernel
theorem q230_23 : qD 230 23 (.aload_n 0) 1 24 ∧ ((0 : Fin 4) : Nat) = 0 := by decide +kernel
theorem q230_24 : qG 230 24 61 27 11 32 1297 2 := by decide +kernel
theorem q230_27 : qD 230 27 (.bipush 28) 2 29 ∧ (Int8.ofInt (28)).toInt32 = (28 : Int32) := by decide +kernel
theorem q230_29 : qD 230 29 (.dup2) 1 30 := by decide +kernel
theorem q230_30 : qD 230 30 (.iaload) 1 31 := by decide +kernel
theorem q230_31 : qD 230 31 (.iconst 1) 1 32 ∧ Int32.ofInt (1) = (1 : Int32) := by decide +kernel
theorem q230_32 : qD 230 32 (.iload_n 1) 1 33 ∧ ((1 : Fin 4) : Nat) = 1 := by decide +kernel
theorem q230_33 : qD 230 33 (.ishl) 1 34 := by decide +kernel
theorem q230_34 : qD 230 34 (.ior) 1 35 := by decide +kernel
theorem q230_35 : qD 230 35 (.iastore) 1 36 := by decide +kernel
theorem q230_36 : qD 230 36 (.aload_n 0) 1 37 ∧ ((0 : Fin 4) : Nat) = 0 := by decide +kernel
theorem q230_37 : qG 230 37 61 40 11 32 1297 2 := by decide +kernel
theorem q230_40 : qD 230 40 (.bipush 28) 2 42 ∧ (Int8.ofInt (28)).toInt32 = (28 : Int32) := by decide +kernel
theorem q230_42 : qD 230 42 (.iaload) 1 43 := by decide +kernel
theorem q230_43 : qD 230 43 (.ireturn) 1 44 ∧ mR 230 = some .int := by decide +kernel
theorem q231_0 : qD 231 0 (.aload_n 0) 1 1 ∧ ((0 : Fin 4) : Nat) = 0 := by decide +kernel
theorem q231_1 : qG 231 1 285 4 11 26 1291 0 := by decide +kernel
theorem q231_4 : qJ 231 4 (.ifCond .le 22) 7 (22) 26 := by decide +kernel
theorem q231_7 : qD 231 7 (.aload_n 1) 1 8 ∧ ((1 : Fin 4) : Nat) = 1 := by decide +kernel
theorem q231_8 : qD 231 8 (.bipush 29) 2 10 ∧ (Int8.ofInt (29)).toInt32 = (29 : Int32) := by decide +kernel
theorem q231_10 : qD 231 10 (.iaload) 1 11 := by decide +kernel
theorem q231_11 : qJ 231 11 (.ifCond .ne 15) 14 (15) 26 := by decide +kernel
theorem q231_14 : qD 231 14 (.aload_n 0) 1 15 ∧ ((0 : Fin 4) : Nat) = 0 := by decide +kernel
theorem q231_15 : qD 231 15 (.aload_n 1) 1 16 ∧ ((1 : Fin 4) : Nat) = 1 := by decide +kernel
theorem q231_16 : qD 231 16 (.invokevirtual 329) 3 19 ∧ qI 231 329 217 1651 := by decide +kernel
theorem q231_19 : qJ 231 19 (.ifCond .ne 7) 22 (7) 26 := by decide +kernel
theorem q231_22 : qD 231 22 (.iconst 1) 1 23 ∧ Int32.ofInt (1) = (1 : Int32) := by decide +kernel
theorem q231_23 : qJ 231 23 (.goto 4) 26 (4) 27 := by decide +kernel
theorem q231_26 : qD 231 26 (.iconst 0) 1 27 ∧ Int32.ofInt (0) = (0 : Int32) := by decide +kernel
theorem q231_27 : qD 231 27 (.ireturn) 1 28 ∧ mR 231 = some .boolean := by decide +kernel
theorem q232_0 : qD 232 0 (.aload_n 0) 1 1 ∧ ((0 : Fin 4) : Nat) = 0 := by decide +kernel
theorem q232_1 : qD 232 1 (.iconst 0) 1 2 ∧ Int32.ofInt (0) = (0 : Int32) := by decide +kernel
theorem q232_2 : qP 232 2 90 5 11 0 1265 0 := by decide +kernel
theorem q232_5 : qD 232 5 (.aload_n 0) 1 6 ∧ ((0 : Fin 4) : Nat) = 0 := by decide +kernel
theorem q232_6 : qD 232 6 (.aload_n 0) 1 7 ∧ ((0 : Fin 4) : Nat) = 0 := by decide +kernel
theorem q232_7 : qG 232 7 61 10 11 32 1297 2 := by decide +kernel
theorem q232_10 : qD 232 10 (.invokevirtual 363) 3 13 ∧ qI 232 363 231 1647 := by decide +kernel
theorem q232_13 : qJ 232 13 (.ifCond .ne 5) 16 (5) 18 := by decide +kernel
theorem q232_16 : qD 232 16 (.iconst (-1)) 1 17 ∧ Int32.ofInt (-1) = (-1 : Int32) := by decide +kernel
theorem q232_17 : qD 232 17 (.ireturn) 1 18 ∧ mR 232 = some .int := by decide +kernel
theorem q232_18 : qD 232 18 (.aload_n 0) 1 19 ∧ ((0 : Fin 4) : Nat) = 0 := by decide +kernel
theorem q232_19 : qD 232 19 (.invokevirtual 360) 3 22 ∧ qI 232 360 228 1639 := by decide +kernel
theorem q232_22 : qD 232 22 (.aload_n 0) 1 23 ∧ ((0 : Fin 4) : Nat) = 0 := by decide +kernel
theorem q232_23 : qD 232 23 (.aload_n 0) 1 24 ∧ ((0 : Fin 4) : Nat) = 0 := by decide +kernel
theorem q232_24 : qG 232 24 61 27 11 32 1297 2 := by decide +kernel
theorem q232_27 : qD 232 27 (.invokevirtual 366) 3 30 ∧ qI 232 366 220 1655 := by decide +kernel
theorem q232_30 : qD 232 30 (.ireturn) 1 31 ∧ mR 232 = some .int := by decide +kernel
theorem q233_0 : qD 233 0 (.aload_n 0) 1 1 ∧ ((0 : Fin 4) : Nat) = 0 := by decide +kernel
theorem q233_1 : qD 233 1 (.iload_n 1) 1 2 ∧ ((1 : Fin 4) : Nat) = 1 := by decide +kernel
theorem q233_2 : qD 233 2 (.invokevirtual 344) 3 5 ∧ qI 233 344 209 1601 := by decide +kernel
theorem q233_5 : qJ 233 5 (.ifCond .eq 20) 8 (20) 25 := by decide +kernel
theorem q233_8 : qD 233 8 (.aload_n 0) 1 9 ∧ ((0 : Fin 4) : Nat) = 0 := by decide +kernel
theorem q233_9 : qD 233 9 (.iload_n 2) 1 10 ∧ ((2 : Fin 4) : Nat) = 2 := by decide +kernel
theorem q233_10 : qD 233 10 (.invokevirtual 344) 3 13 ∧ qI 233 344 209 1601 := by decide +kernel
theorem q233_13 : qJ 233 13 (.ifCond .eq 12) 16 (12) 25 := by decide +kernel
theorem q233_16 : qD 233 16 (.iload_n 1) 1 17 ∧ ((1 : Fin 4) : Nat) = 1 := by decide +kernel
theorem q233_17 : qD 233 17 (.iload_n 2) 1 18 ∧ ((2 : Fin 4) : Nat) = 2 := by decide +kernel
theorem q233_18 : qJ 233 18 (.if_icmp .eq 7) 21 (7) 25 := by decide +kernel
theorem q233_21 : qD 233 21 (.iconst 1) 1 22 ∧ Int32.ofInt (1) = (1 : Int32) := by decide +kernel
theorem q233_22 : qJ 233 22 (.goto 4) 25 (4) 26 := by decide +kernel
theorem q233_25 : qD 233 25 (.iconst 0) 1 26 ∧ Int32.ofInt (0) = (0 : Int32) := by decide +kernel
theorem q233_26 : qD 233 26 (.ireturn) 1 27 ∧ mR 233 = some .boolean := by decide +kernel
theorem q234_0 : qD 234 0 (.aload_n 0) 1 1 ∧ ((0 : Fin 4) : Nat) = 0 := by decide +kernel
theorem q234_1 : qD 234 1 (.iconst 4) 1 2 ∧ Int32.ofInt (4) = (4 : Int32) := by decide +kernel
theorem q234_2 : qD 234 2 (.iload_n 1) 1 3 ∧ ((1 : Fin 4) : Nat) = 1 := by decide +kernel
theorem q234_3 : qD 234 3 (.imul) 1 4 := by decide +kernel
theorem q234_4 : qD 234 4 (.iconst 0) 1 5 ∧ Int32.ofInt (0) = (0 : Int32) := by decide +kernel
theorem q234_5 : qD 234 5 (.iadd) 1 6 := by decide +kernel
theorem q234_6 : qD 234 6 (.iaload) 1 7 := by decide +kernel
theorem q234_7 : qD 234 7 (.istore_n 3) 1 8 ∧ ((3 : Fin 4) : Nat) = 3 ∧ 3 < mL 234 := by decide +kernel
theorem q234_8 : qD 234 8 (.aload_n 0) 1 9 ∧ ((0 : Fin 4) : Nat) = 0 := by decide +kernel
theorem q234_9 : qD 234 9 (.iconst 4) 1 10 ∧ Int32.ofInt (4) = (4 : Int32) := by decide +kernel
theorem q234_10 : qD 234 10 (.iload_n 1) 1 11 ∧ ((1 : Fin 4) : Nat) = 1 := by decide +kernel
theorem q234_11 : qD 234 11 (.imul) 1 12 := by decide +kernel
theorem q234_12 : qD 234 12 (.iconst 0) 1 13 ∧ Int32.ofInt (0) = (0 : Int32) := by decide +kernel
theorem q234_13 : qD 234 13 (.iadd) 1 14 := by decide +kernel
theorem q234_14 : qD 234 14 (.aload_n 0) 1 15 ∧ ((0 : Fin 4) : Nat) = 0 := by decide +kernel
theorem q234_15 : qD 234 15 (.iconst 4) 1 16 ∧ Int32.ofInt (4) = (4 : Int32) := by decide +kernel
theorem q234_16 : qD 234 16 (.iload_n 2) 1 17 ∧ ((2 : Fin 4) : Nat) = 2 := by decide +kernel
theorem q234_17 : qD 234 17 (.imul) 1 18 := by decide +kernel
theorem q234_18 : qD 234 18 (.iconst 0) 1 19 ∧ Int32.ofInt (0) = (0 : Int32) := by decide +kernel
theorem q234_19 : qD 234 19 (.iadd) 1 20 := by decide +kernel
theorem q234_20 : qD 234 20 (.iaload) 1 21 := by decide +kernel
theorem q234_21 : qD 234 21 (.iastore) 1 22 := by decide +kernel
theorem q234_22 : qD 234 22 (.aload_n 0) 1 23 ∧ ((0 : Fin 4) : Nat) = 0 := by decide +kernel
theorem q234_23 : qD 234 23 (.iconst 4) 1 24 ∧ Int32.ofInt (4) = (4 : Int32) := by decide +kernel
theorem q234_24 : qD 234 24 (.iload_n 2) 1 25 ∧ ((2 : Fin 4) : Nat) = 2 := by decide +kernel
theorem q234_25 : qD 234 25 (.imul) 1 26 := by decide +kernel
theorem q234_26 : qD 234 26 (.iconst 0) 1 27 ∧ Int32.ofInt (0) = (0 : Int32) := by decide +kernel
theorem q234_27 : qD 234 27 (.iadd) 1 28 := by decide +kernel
theorem q234_28 : qD 234 28 (.iload_n 3) 1 29 ∧ ((3 : Fin 4) : Nat) = 3 := by decide +kernel
theorem q234_29 : qD 234 29 (.iastore) 1 30 := by decide +kernel
theorem q234_30 : qD 234 30 (.return_) 1 31 ∧ mR 234 = none := by decide +kernel
theorem q235_0 : qD 235 0 (.aload_n 0) 1 1 ∧ ((0 : Fin 4) : Nat) = 0 := by decide +kernel
theorem q235_1 : qD 235 1 (.iconst 0) 1 2 ∧ Int32.ofInt (0) = (0 : Int32) := by decide +kernel
theorem q235_2 : qP 235 2 90 5 11 0 1265 0 := by decide +kernel
theorem q235_5 : qD 235 5 (.aload_n 0) 1 6 ∧ ((0 : Fin 4) : Nat) = 0 := by decide +kernel
theorem q235_6 : qD 235 6 (.iload_n 1) 1 7 ∧ ((1 : Fin 4) : Nat) = 1 := by decide +kernel
theorem q235_7 : qD 235 7 (.iload_n 2) 1 8 ∧ ((2 : Fin 4) : Nat) = 2 := by decide +kernel
theorem q235_8 : qD 235 8 (.invokevirtual 369) 3 11 ∧ qI 235 369 233 1690 := by decide +kernel
theorem q235_11 : qJ 235 11 (.ifCond .ne 5) 14 (5) 16 := by decide +kernel
theorem q235_14 : qD 235 14 (.iconst (-1)) 1 15 ∧ Int32.ofInt (-1) = (-1 : Int32) := by decide +kernel
theorem q235_15 : qD 235 15 (.ireturn) 1 16 ∧ mR 235 = some .int := by decide +kernel
theorem q235_16 : qD 235 16 (.aload_n 0) 1 17 ∧ ((0 : Fin 4) : Nat) = 0 := by decide +kernel
theorem q235_17 : qD 235 17 (.invokevirtual 360) 3 20 ∧ qI 235 360 228 1639 := by decide +kernel
theorem q235_20 : qD 235 20 (.aload_n 0) 1 21 ∧ ((0 : Fin 4) : Nat) = 0 := by decide +kernel
theorem q235_21 : qG 235 21 61 24 11 32 1297 2 := by decide +kernel
theorem q235_24 : qD 235 24 (.iload_n 1) 1 25 ∧ ((1 : Fin 4) : Nat) = 1 := by decide +kernel
theorem q235_25 : qD 235 25 (.iload_n 2) 1 26 ∧ ((2 : Fin 4) : Nat) = 2 := by decide +kernel
theorem q235_26 : qD 235 26 (.invokestatic 372) 3 29 ∧ qI 235 372 234 1694 := by decide +kernel
theorem q235_29 : qD 235 29 (.aload_n 0) 1 30 ∧ ((0 : Fin 4) : Nat) = 0 := by decide +kernel
theorem q235_30 : qD 235 30 (.aload_n 0) 1 31 ∧ ((0 : Fin 4) : Nat) = 0 := by decide +kernel
theorem q235_31 : qG 235 31 61 34 11 32 1297 2 := by decide +kernel
theorem q235_34 : qD 235 34 (.invokevirtual 318) 3 37 ∧ qI 235 318 213 1659 := by decide +kernel
theorem q235_37 : qD 235 37 (.ireturn) 1 38 ∧ mR 235 = some .int := by decide +kernel
theorem q236_0 : qD 236 0 (.aload_n 0) 1 1 ∧ ((0 : Fin 4) : Nat) = 0 := by decide +kernel
theorem q236_1 : qD 236 1 (.iconst 0) 1 2 ∧ Int32.ofInt (0) = (0 : Int32) := by decide +kernel
theorem q236_2 : qP 236 2 90 5 11 0 1265 0 := by decide +kernel
theorem q236_5 : qD 236 5 (.aload_n 0) 1 6 ∧ ((0 : Fin 4) : Nat) = 0 := by decide +kernel
theorem q236_6 : qD 236 6 (.iload_n 1) 1 7 ∧ ((1 : Fin 4) : Nat) = 1 := by decide +kernel
theorem q236_7 : qD 236 7 (.invokevirtual 344) 3 10 ∧ qI 236 344 209 1601 := by decide +kernel
theorem q236_10 : qJ 236 10 (.ifCond .eq 31) 13 (31) 41 := by decide +kernel
theorem q236_13 : qD 236 13 (.iload_n 2) 1 14 ∧ ((2 : Fin 4) : Nat) = 2 := by decide +kernel
theorem q236_14 : qJ 236 14 (.ifCond .lt 27) 17 (27) 41 := by decide +kernel
theorem q236_17 : qD 236 17 (.iload_n 2) 1 18 ∧ ((2 : Fin 4) : Nat) = 2 := by decide +kernel
theorem q236_18 : qD 236 18 (.iconst 1) 1 19 ∧ Int32.ofInt (1) = (1 : Int32) := by decide +kernel
theorem q236_19 : qD 236 19 (.aload_n 0) 1 20 ∧ ((0 : Fin 4) : Nat) = 0 := by decide +kernel
theorem q236_20 : qG 236 20 288 23 11 27 1292 0 := by decide +kernel
theorem q236_23 : qD 236 23 (.ishl) 1 24 := by decide +kernel
theorem q236_24 : qJ 236 24 (.if_icmp .ge 17) 27 (17) 41 := by decide +kernel
theorem q236_27 : qD 236 27 (.aload_n 0) 1 28 ∧ ((0 : Fin 4) : Nat) = 0 := by decide +kernel
theorem q236_28 : qG 236 28 61 31 11 32 1297 2 := by decide +kernel
theorem q236_31 : qD 236 31 (.iconst 4) 1 32 ∧ Int32.ofInt (4) = (4 : Int32) := by decide +kernel
theorem q236_32 : qD 236 32 (.iload_n 1) 1 33 ∧ ((1 : Fin 4) : Nat) = 1 := by decide +kernel
theorem q236_33 : qD 236 33 (.imul) 1 34 := by decide +kernel
theorem q236_34 : qD 236 34 (.iconst 3) 1 35 ∧ Int32.ofInt (3) = (3 : Int32) := by decide +kernel
theorem q236_35 : qD 236 35 (.iadd) 1 36 := by decide +kernel
theorem q236_36 : qD 236 36 (.iaload) 1 37 := by decide +kernel
theorem q236_37 : qD 236 37 (.iload_n 2) 1 38 ∧ ((2 : Fin 4) : Nat) = 2 := by decide +kernel
theorem q236_38 : qJ 236 38 (.if_icmp .ne 5) 41 (5) 43 := by decide +kernel
theorem q236_41 : qD 236 41 (.iconst 0) 1 42 ∧ Int32.ofInt (0) = (0 : Int32) := by decide +kernel
theorem q236_42 : qD 236 42 (.ireturn) 1 43 ∧ mR 236 = some .boolean := by decide +kernel
theorem q236_43 : qD 236 43 (.aload_n 0) 1 44 ∧ ((0 : Fin 4) : Nat) = 0 := by decide +kernel
theorem q236_44 : qD 236 44 (.invokevirtual 360) 3 47 ∧ qI 236 360 228 1639 := by decide +kernel
theorem q236_47 : qD 236 47 (.aload_n 0) 1 48 ∧ ((0 : Fin 4) : Nat) = 0 := by decide +kernel
theorem q236_48 : qG 236 48 61 51 11 32 1297 2 := by decide +kernel
theorem q236_51 : qD 236 51 (.iconst 4) 1 52 ∧ Int32.ofInt (4) = (4 : Int32) := by decide +kernel
theorem q236_52 : qD 236 52 (.iload_n 1) 1 53 ∧ ((1 : Fin 4) : Nat) = 1 := by decide +kernel
theorem q236_53 : qD 236 53 (.imul) 1 54 := by decide +kernel
theorem q236_54 : qD 236 54 (.iconst 3) 1 55 ∧ Int32.ofInt (3) = (3 : Int32) := by decide +kernel
theorem q236_55 : qD 236 55 (.iadd) 1 56 := by decide +kernel
theorem q236_56 : qD 236 56 (.iload_n 2) 1 57 ∧ ((2 : Fin 4) : Nat) = 2 := by decide +kernel
theorem q236_57 : qD 236 57 (.iastore) 1 58 := by decide +kernel
theorem q236_58 : qD 236 58 (.iconst 1) 1 59 ∧ Int32.ofInt (1) = (1 : Int32) := by decide +kernel
theorem q236_59 : qD 236 59 (.ireturn) 1 60 ∧ mR 236 = some .boolean := by decide +kernel
theorem q237_0 : qD 237 0 (.iconst 0) 1 1 ∧ Int32.ofInt (0) = (0 : Int32) := by decide +kernel
theorem q237_1 : qD 237 1 (.istore_n 2) 1 2 ∧ ((2 : Fin 4) : Nat) = 2 ∧ 2 < mL 237 := by decide +kernel
theorem q237_2 : qD 237 2 (.iconst 1) 1 3 ∧ Int32.ofInt (1) = (1 : Int32) := by decide +kernel
theorem q237_3 : qD 237 3 (.istore_n 3) 1 4 ∧ ((3 : Fin 4) : Nat) = 3 ∧ 3 < mL 237 := by decide +kernel
theorem q237_4 : qD 237 4 (.iload_n 3) 1 5 ∧ ((3 : Fin 4) : Nat) = 3 := by decide +kernel
theorem q237_5 : qD 237 5 (.aload_n 0) 1 6 ∧ ((0 : Fin 4) : Nat) = 0 := by decide +kernel
theorem q237_6 : qG 237 6 285 9 11 26 1291 0 := by decide +kernel
theorem q237_9 : qJ 237 9 (.if_icmp .ge 32) 12 (32) 41 := by decide +kernel
theorem q237_12 : qD 237 12 (.aload_n 1) 1 13 ∧ ((1 : Fin 4) : Nat) = 1 := by decide +kernel
theorem q237_13 : qD 237 13 (.iconst 4) 1 14 ∧ Int32.ofInt (4) = (4 : Int32) := by decide +kernel
theorem q237_14 : qD 237 14 (.iload_n 3) 1 15 ∧ ((3 : Fin 4) : Nat) = 3 := by decide +kernel
theorem q237_15 : qD 237 15 (.imul) 1 16 := by decide +kernel
theorem q237_16 : qD 237 16 (.iconst 1) 1 17 ∧ Int32.ofInt (1) = (1 : Int32) := by decide +kernel
theorem q237_17 : qD 237 17 (.iadd) 1 18 := by decide +kernel
theorem q237_18 : qD 237 18 (.iaload) 1 19 := by decide +kernel
theorem q237_19 : qD 237 19 (.aload_n 1) 1 20 ∧ ((1 : Fin 4) : Nat) = 1 := by decide +kernel
theorem q237_20 : qD 237 20 (.iconst 4) 1 21 ∧ Int32.ofInt (4) = (4 : Int32) := by decide +kernel
theorem q237_21 : qD 237 21 (.iload_n 2) 1 22 ∧ ((2 : Fin 4) : Nat) = 2 := by decide +kernel
theorem q237_22 : qD 237 22 (.imul) 1 23 := by decide +kernel
theorem q237_23 : qD 237 23 (.iconst 1) 1 24 ∧ Int32.ofInt (1) = (1 : Int32) := by decide +kernel
theorem q237_24 : qD 237 24 (.iadd) 1 25 := by decide +kernel
theorem q237_25 : qD 237 25 (.iaload) 1 26 := by decide +kernel
theorem q237_26 : qJ 237 26 (.if_icmp .le 7) 29 (7) 33 := by decide +kernel
theorem q237_29 : qD 237 29 (.iload_n 3) 1 30 ∧ ((3 : Fin 4) : Nat) = 3 := by decide +kernel
theorem q237_30 : qJ 237 30 (.goto 4) 33 (4) 34 := by decide +kernel
theorem q237_33 : qD 237 33 (.iload_n 2) 1 34 ∧ ((2 : Fin 4) : Nat) = 2 := by decide +kernel
theorem q237_34 : qD 237 34 (.istore_n 2) 1 35 ∧ ((2 : Fin 4) : Nat) = 2 ∧ 2 < mL 237 := by decide +kernel
theorem q237_35 : qD 237 35 (.iinc 3 1) 3 38 ∧ 3 < mL 237 ∧ Int32.ofInt (1) = (1 : Int32) := by decide +kernel
theorem q237_38 : qJ 237 38 (.goto (-34)) 41 (-34) 4 := by decide +kernel
theorem q237_41 : qD 237 41 (.iload_n 2) 1 42 ∧ ((2 : Fin 4) : Nat) = 2 := by decide +kernel
theorem q237_42 : qD 237 42 (.ireturn) 1 43 ∧ mR 237 = some .int := by decide +kernel
theorem q238_0 : qD 238 0 (.aload_n 0) 1 1 ∧ ((0 : Fin 4) : Nat) = 0 := by decide +kernel
theorem q238_1 : qG 238 1 285 4 11 26 1291 0 := by decide +kernel
theorem q238_4 : qJ 238 4 (.ifCond .le 22) 7 (22) 26 := by decide +kernel
theorem q238_7 : qD 238 7 (.aload_n 1) 1 8 ∧ ((1 : Fin 4) : Nat) = 1 := by decide +kernel
theorem q238_8 : qD 238 8 (.iconst 4) 1 9 ∧ Int32.ofInt (4) = (4 : Int32) := by decide +kernel
theorem q238_9 : qD 238 9 (.aload_n 0) 1 10 ∧ ((0 : Fin 4) : Nat) = 0 := by decide +kernel
theorem q238_10 : qD 238 10 (.aload_n 1) 1 11 ∧ ((1 : Fin 4) : Nat) = 1 := by decide +kernel
theorem q238_11 : qD 238 11 (.invokevirtual 375) 3 14 ∧ qI 238 375 237 1709 := by decide +kernel
theorem q238_14 : qD 238 14 (.imul) 1 15 := by decide +kernel
theorem q238_15 : qD 238 15 (.iconst 1) 1 16 ∧ Int32.ofInt (1) = (1 : Int32) := by decide +kernel
theorem q238_16 : qD 238 16 (.iadd) 1 17 := by decide +kernel
theorem q238_17 : qD 238 17 (.iaload) 1 18 := by decide +kernel
theorem q238_18 : qD 238 18 (.iconst 2) 1 19 ∧ Int32.ofInt (2) = (2 : Int32) := by decide +kernel
theorem q238_19 : qJ 238 19 (.if_icmp .lt 7) 22 (7) 26 := by decide +kernel
theorem q238_22 : qD 238 22 (.iconst 1) 1 23 ∧ Int32.ofInt (1) = (1 : Int32) := by decide +kernel
theorem q238_23 : qJ 238 23 (.goto 4) 26 (4) 27 := by decide +kernel
theorem q238_26 : qD 238 26 (.iconst 0) 1 27 ∧ Int32.ofInt (0) = (0 : Int32) := by decide +kernel
theorem q238_27 : qD 238 27 (.ireturn) 1 28 ∧ mR 238 = some .boolean := by decide +kernel
theorem q239_0 : qD 239 0 (.aload_n 0) 1 1 ∧ ((0 : Fin 4) : Nat) = 0 := by decide +kernel
theorem q239_1 : qD 239 1 (.aload_n 1) 1 2 ∧ ((1 : Fin 4) : Nat) = 1 := by decide +kernel
theorem q239_2 : qD 239 2 (.invokevirtual 375) 3 5 ∧ qI 239 375 237 1709 := by decide +kernel
theorem q239_5 : qD 239 5 (.istore_n 2) 1 6 ∧ ((2 : Fin 4) : Nat) = 2 ∧ 2 < mL 239 := by decide +kernel
theorem q239_6 : qD 239 6 (.aload_n 1) 1 7 ∧ ((1 : Fin 4) : Nat) = 1 := by decide +kernel
theorem q239_7 : qD 239 7 (.iconst 4) 1 8 ∧ Int32.ofInt (4) = (4 : Int32) := by decide +kernel
theorem q239_8 : qD 239 8 (.iload_n 2) 1 9 ∧ ((2 : Fin 4) : Nat) = 2 := by decide +kernel
theorem q239_9 : qD 239 9 (.imul) 1 10 := by decide +kernel
theorem q239_10 : qD 239 10 (.iconst 1) 1 11 ∧ Int32.ofInt (1) = (1 : Int32) := by decide +kernel
theorem q239_11 : qD 239 11 (.iadd) 1 12 := by decide +kernel
theorem q239_12 : qD 239 12 (.dup2) 1 13 := by decide +kernel
theorem q239_13 : qD 239 13 (.iaload) 1 14 := by decide +kernel
theorem q239_14 : qD 239 14 (.iconst 2) 1 15 ∧ Int32.ofInt (2) = (2 : Int32) := by decide +kernel
theorem q239_15 : qD 239 15 (.isub) 1 16 := by decide +kernel
theorem q239_16 : qD 239 16 (.iastore) 1 17 := by decide +kernel
theorem q239_17 : qD 239 17 (.aload_n 1) 1 18 ∧ ((1 : Fin 4) : Nat) = 1 := by decide +kernel
theorem q239_18 : qD 239 18 (.bipush 30) 2 20 ∧ (Int8.ofInt (30)).toInt32 = (30 : Int32) := by decide +kernel
theorem q239_20 : qD 239 20 (.iconst 0) 1 21 ∧ Int32.ofInt (0) = (0 : Int32) := by decide +kernel
theorem q239_21 : qD 239 21 (.iastore) 1 22 := by decide +kernel
theorem q239_22 : qD 239 22 (.iload_n 2) 1 23 ∧ ((2 : Fin 4) : Nat) = 2 := by decide +kernel
theorem q239_23 : qD 239 23 (.ireturn) 1 24 ∧ mR 239 = some .int := by decide +kernel
theorem q240_0 : qD 240 0 (.aload_n 0) 1 1 ∧ ((0 : Fin 4) : Nat) = 0 := by decide +kernel
theorem q240_1 : qD 240 1 (.iconst 0) 1 2 ∧ Int32.ofInt (0) = (0 : Int32) := by decide +kernel
theorem q240_2 : qP 240 2 90 5 11 0 1265 0 := by decide +kernel
theorem q240_5 : qD 240 5 (.aload_n 0) 1 6 ∧ ((0 : Fin 4) : Nat) = 0 := by decide +kernel
theorem q240_6 : qD 240 6 (.aload_n 0) 1 7 ∧ ((0 : Fin 4) : Nat) = 0 := by decide +kernel
theorem q240_7 : qG 240 7 61 10 11 32 1297 2 := by decide +kernel
theorem q240_10 : qD 240 10 (.invokevirtual 378) 3 13 ∧ qI 240 378 238 1705 := by decide +kernel
theorem q240_13 : qJ 240 13 (.ifCond .ne 5) 16 (5) 18 := by decide +kernel
theorem q240_16 : qD 240 16 (.iconst (-1)) 1 17 ∧ Int32.ofInt (-1) = (-1 : Int32) := by decide +kernel
theorem q240_17 : qD 240 17 (.ireturn) 1 18 ∧ mR 240 = some .int := by decide +kernel
theorem q240_18 : qD 240 18 (.aload_n 0) 1 19 ∧ ((0 : Fin 4) : Nat) = 0 := by decide +kernel
theorem q240_19 : qD 240 19 (.invokevirtual 360) 3 22 ∧ qI 240 360 228 1639 := by decide +kernel
theorem q240_22 : qD 240 22 (.aload_n 0) 1 23 ∧ ((0 : Fin 4) : Nat) = 0 := by decide +kernel
theorem q240_23 : qD 240 23 (.aload_n 0) 1 24 ∧ ((0 : Fin 4) : Nat) = 0 := by decide +kernel
theorem q240_24 : qG 240 24 61 27 11 32 1297 2 := by decide +kernel
theorem q240_27 : qD 240 27 (.invokevirtual 381) 3 30 ∧ qI 240 381 239 1713 := by decide +kernel
theorem q240_30 : qD 240 30 (.ireturn) 1 31 ∧ mR 240 = some .int := by decide +kernel
theorem q241_0 : qD 241 0 (.aload_n 0) 1 1 ∧ ((0 : Fin 4) : Nat) = 0 := by decide +kernel
theorem q241_1 : qG 241 1 285 4 11 26 1291 0 := by decide +kernel
theorem q241_4 : qJ 241 4 (.ifCond .le 34) 7 (34) 38 := by decide +kernel
theorem q241_7 : qD 241 7 (.iload_n 1) 1 8 ∧ ((1 : Fin 4) : Nat) = 1 := by decide +kernel
theorem q241_8 : qD 241 8 (.i2l) 1 9 := by decide +kernel
theorem q241_9 : qD 241 9 (.lconst 1) 1 10 ∧ Int64.ofNat ((1 : Fin 2) : Nat) = 1 := by decide +kernel
theorem q241_10 : qD 241 10 (.ldc2_w 384) 3 13 ∧ inG 1725 (.constantLong (mN 241).cls 384 (60)) := by decide +kernel
theorem q241_13 : qD 241 13 (.invokestatic 211) 3 16 ∧ qI 241 211 170 1435 := by decide +kernel
theorem q241_16 : qJ 241 16 (.ifCond .eq 22) 19 (22) 38 := by decide +kernel
theorem q241_19 : qD 241 19 (.aload_n 0) 1 20 ∧ ((0 : Fin 4) : Nat) = 0 := by decide +kernel
theorem q241_20 : qG 241 20 61 23 11 32 1297 2 := by decide +kernel
theorem q241_23 : qD 241 23 (.bipush 32) 2 25 ∧ (Int8.ofInt (32)).toInt32 = (32 : Int32) := by decide +kernel
theorem q241_25 : qD 241 25 (.iaload) 1 26 := by decide +kernel
theorem q241_26 : qD 241 26 (.iload_n 1) 1 27 ∧ ((1 : Fin 4) : Nat) = 1 := by decide +kernel
theorem q241_27 : qD 241 27 (.iadd) 1 28 := by decide +kernel
theorem q241_28 : qD 241 28 (.sipush 9999) 3 31 ∧ (Int16.ofInt (9999)).toInt32 = (9999 : Int32) := by decide +kernel
theorem q241_31 : qJ 241 31 (.if_icmp .gt 7) 34 (7) 38 := by decide +kernel
theorem q241_34 : qD 241 34 (.iconst 1) 1 35 ∧ Int32.ofInt (1) = (1 : Int32) := by decide +kernel
theorem q241_35 : qJ 241 35 (.goto 4) 38 (4) 39 := by decide +kernel
theorem q241_38 : qD 241 38 (.iconst 0) 1 39 ∧ Int32.ofInt (0) = (0 : Int32) := by decide +kernel
theorem q241_39 : qD 241 39 (.ireturn) 1 40 ∧ mR 241 = some .boolean := by decide +kernel
theorem q242_0 : qD 242 0 (.aload_n 0) 1 1 ∧ ((0 : Fin 4) : Nat) = 0 := by decide +kernel
theorem q242_1 : qD 242 1 (.iconst 0) 1 2 ∧ Int32.ofInt (0) = (0 : Int32) := by decide +kernel
theorem q242_2 : qP 242 2 90 5 11 0 1265 0 := by decide +kernel
theorem q242_5 : qD 242 5 (.aload_n 0) 1 6 ∧ ((0 : Fin 4) : Nat) = 0 := by decide +kernel
theorem q242_6 : qD 242 6 (.iload_n 1) 1 7 ∧ ((1 : Fin 4) : Nat) = 1 := by decide +kernel
theorem q242_7 : qD 242 7 (.invokevirtual 386) 3 10 ∧ qI 242 386 241 1721 := by decide +kernel
theorem q242_10 : qJ 242 10 (.ifCond .ne 5) 13 (5) 15 := by decide +kernel
theorem q242_13 : qD 242 13 (.iconst (-1)) 1 14 ∧ Int32.ofInt (-1) = (-1 : Int32) := by decide +kernel
theorem q242_14 : qD 242 14 (.ireturn) 1 15 ∧ mR 242 = some .int := by decide +kernel
theorem q242_15 : qD 242 15 (.iconst 0) 1 16 ∧ Int32.ofInt (0) = (0 : Int32) := by decide +kernel
theorem q242_16 : qD 242 16 (.istore_n 2) 1 17 ∧ ((2 : Fin 4) : Nat) = 2 ∧ 2 < mL 242 := by decide +kernel
theorem q242_17 : qD 242 17 (.iload_n 2) 1 18 ∧ ((2 : Fin 4) : Nat) = 2 := by decide +kernel
theorem q242_18 : qD 242 18 (.iload_n 1) 1 19 ∧ ((1 : Fin 4) : Nat) = 1 := by decide +kernel
theorem q242_19 : qJ 242 19 (.if_icmp .ge 21) 22 (21) 40 := by decide +kernel
theorem q242_22 : qD 242 22 (.aload_n 0) 1 23 ∧ ((0 : Fin 4) : Nat) = 0 := by decide +kernel
theorem q242_23 : qD 242 23 (.invokevirtual 360) 3 26 ∧ qI 242 360 228 1639 := by decide +kernel
theorem q242_26 : qD 242 26 (.aload_n 0) 1 27 ∧ ((0 : Fin 4) : Nat) = 0 := by decide +kernel
theorem q242_27 : qD 242 27 (.aload_n 0) 1 28 ∧ ((0 : Fin 4) : Nat) = 0 := by decide +kernel
theorem q242_28 : qG 242 28 61 31 11 32 1297 2 := by decide +kernel
theorem q242_31 : qD 242 31 (.invokevirtual 389) 3 34 ∧ qI 242 389 221 1726 := by decide +kernel
theorem q242_34 : qD 242 34 (.iinc 2 1) 3 37 ∧ 2 < mL 242 ∧ Int32.ofInt (1) = (1 : Int32) := by decide +kernel
theorem q242_37 : qJ 242 37 (.goto (-20)) 40 (-20) 17 := by decide +kernel
theorem q242_40 : qD 242 40 (.aload_n 0) 1 41 ∧ ((0 : Fin 4) : Nat) = 0 := by decide +kernel
theorem q242_41 : qG 242 41 61 44 11 32 1297 2 := by decide +kernel
theorem q242_44 : qD 242 44 (.bipush 32) 2 46 ∧ (Int8.ofInt (32)).toInt32 = (32 : Int32) := by decide +kernel
theorem q242_46 : qD 242 46 (.iaload) 1 47 := by decide +kernel
theorem q242_47 : qD 242 47 (.ireturn) 1 48 ∧ mR 242 = some .int := by decide +kernel
theorem q243_0 : qD 243 0 (.aload_n 0) 1 1 ∧ ((0 : Fin 4) : Nat) = 0 := by decide +kernel
theorem q243_1 : qD 243 1 (.aload_n 0) 1 2 ∧ ((0 : Fin 4) : Nat) = 0 := by decide +kernel
theorem q243_2 : qG 243 2 393 5 11 39 1304 1 := by decide +kernel
theorem q243_5 : qD 243 5 (.ldc2_w 397) 3 8 ∧ inG 1738 (.constantLong (mN 243).cls 397 (6364136223846793005)) := by decide +kernel
theorem q243_8 : qD 243 8 (.lmul) 1 9 := by decide +kernel
theorem q243_9 : qD 243 9 (.ldc2_w 399) 3 12 ∧ inG 1739 (.constantLong (mN 243).cls 399 (1442695040888963407)) := by decide +kernel
theorem q243_12 : qD 243 12 (.ladd) 1 13 := by decide +kernel
theorem q243_13 : qP 243 13 393 16 11 39 1304 1 := by decide +kernel
theorem q243_16 : qD 243 16 (.aload_n 0) 1 17 ∧ ((0 : Fin 4) : Nat) = 0 := by decide +kernel
theorem q243_17 : qG 243 17 393 20 11 39 1304 1 := by decide +kernel
theorem q243_20 : qD 243 20 (.bipush 33) 2 22 ∧ (Int8.ofInt (33)).toInt32 = (33 : Int32) := by decide +kernel
theorem q243_22 : qD 243 22 (.lushr) 1 23 := by decide +kernel
theorem q243_23 : qD 243 23 (.iload_n 1) 1 24 ∧ ((1 : Fin 4) : Nat) = 1 := by decide +kernel
theorem q243_24 : qD 243 24 (.i2l) 1 25 := by decide +kernel
theorem q243_25 : qD 243 25 (.lrem) 1 26 := by decide +kernel
theorem q243_26 : qD 243 26 (.l2i) 1 27 := by decide +kernel
theorem q243_27 : qD 243 27 (.ireturn) 1 28 ∧ mR 243 = some .int := by decide +kernel
theorem q244_0 : qD 244 0 (.iconst (-1)) 1 1 ∧ Int32.ofInt (-1) = (-1 : Int32) := by decide +kernel
theorem q244_1 : qD 244 1 (.istore_n 2) 1 2 ∧ ((2 : Fin 4) : Nat) = 2 ∧ 2 < mL 244 := by decide +kernel
theorem q244_2 : qD 244 2 (.iconst 0) 1 3 ∧ Int32.ofInt (0) = (0 : Int32) := by decide +kernel
theorem q244_3 : qD 244 3 (.istore_n 3) 1 4 ∧ ((3 : Fin 4) : Nat) = 3 ∧ 3 < mL 244 := by decide +kernel
theorem q244_4 : qD 244 4 (.iload_n 3) 1 5 ∧ ((3 : Fin 4) : Nat) = 3 := by decide +kernel
theorem q244_5 : qD 244 5 (.aload_n 0) 1 6 ∧ ((0 : Fin 4) : Nat) = 0 := by decide +kernel
theorem q244_6 : qG 244 6 285 9 11 26 1291 0 := by decide +kernel
theorem q244_9 : qJ 244 9 (.if_icmp .ge 36) 12 (36) 45 := by decide +kernel
theorem q244_12 : qD 244 12 (.iload_n 3) 1 13 ∧ ((3 : Fin 4) : Nat) = 3 := by decide +kernel
theorem q244_13 : qD 244 13 (.iload_n 1) 1 14 ∧ ((1 : Fin 4) : Nat) = 1 := by decide +kernel
theorem q244_14 : qJ 244 14 (.if_icmp .eq 25) 17 (25) 39 := by decide +kernel
theorem q244_17 : qD 244 17 (.iload_n 2) 1 18 ∧ ((2 : Fin 4) : Nat) = 2 := by decide +kernel
theorem q244_18 : qD 244 18 (.iconst (-1)) 1 19 ∧ Int32.ofInt (-1) = (-1 : Int32) := by decide +kernel
theorem q244_19 : qJ 244 19 (.if_icmp .eq 18) 22 (18) 37 := by decide +kernel
theorem q244_22 : qD 244 22 (.aload_n 0) 1 23 ∧ ((0 : Fin 4) : Nat) = 0 := by decide +kernel
theorem q244_23 : qD 244 23 (.iload_n 3) 1 24 ∧ ((3 : Fin 4) : Nat) = 3 := by decide +kernel
theorem q244_24 : qD 244 24 (.iconst 1) 1 25 ∧ Int32.ofInt (1) = (1 : Int32) := by decide +kernel
theorem q244_25 : qD 244 25 (.invokevirtual 291) 3 28 ∧ qI 244 291 211 1588 := by decide +kernel
theorem q244_28 : qD 244 28 (.aload_n 0) 1 29 ∧ ((0 : Fin 4) : Nat) = 0 := by decide +kernel
theorem q244_29 : qD 244 29 (.iload_n 2) 1 30 ∧ ((2 : Fin 4) : Nat) = 2 := by decide +kernel
theorem q244_30 : qD 244 30 (.iconst 1) 1 31 ∧ Int32.ofInt (1) = (1 : Int32) := by decide +kernel
theorem q244_31 : qD 244 31 (.invokevirtual 291) 3 34 ∧ qI 244 291 211 1588 := by decide +kernel
theorem q244_34 : qJ 244 34 (.if_icmp .le 5) 37 (5) 39 := by decide +kernel
theorem q244_37 : qD 244 37 (.iload_n 3) 1 38 ∧ ((3 : Fin 4) : Nat) = 3 := by decide +kernel
theorem q244_38 : qD 244 38 (.istore_n 2) 1 39 ∧ ((2 : Fin 4) : Nat) = 2 ∧ 2 < mL 244 := by decide +kernel
theorem q244_39 : qD 244 39 (.iinc 3 1) 3 42 ∧ 3 < mL 244 ∧ Int32.ofInt (1) = (1 : Int32) := by decide +kernel
theorem q244_42 : qJ 244 42 (.goto (-38)) 45 (-38) 4 := by decide +kernel
theorem q244_45 : qD 244 45 (.iload_n 2) 1 46 ∧ ((2 : Fin 4) : Nat) = 2 := by decide +kernel
theorem q244_46 : qD 244 46 (.ireturn) 1 47 ∧ mR 244 = some .int := by decide +kernel
theorem q245_0 : qD 245 0 (.aload_n 0) 1 1 ∧ ((0 : Fin 4) : Nat) = 0 := by decide +kernel
theorem q245_1 : qD 245 1 (.iconst 0) 1 2 ∧ Int32.ofInt (0) = (0 : Int32) := by decide +kernel
theorem q245_2 : qP 245 2 90 5 11 0 1265 0 := by decide +kernel
theorem q245_5 : qD 245 5 (.aload_n 0) 1 6 ∧ ((0 : Fin 4) : Nat) = 0 := by decide +kernel
theorem q245_6 : qD 245 6 (.iload_n 1) 1 7 ∧ ((1 : Fin 4) : Nat) = 1 := by decide +kernel
theorem q245_7 : qD 245 7 (.invokevirtual 386) 3 10 ∧ qI 245 386 241 1721 := by decide +kernel
theorem q245_10 : qJ 245 10 (.ifCond .ne 5) 13 (5) 15 := by decide +kernel
theorem q245_13 : qD 245 13 (.iconst (-1)) 1 14 ∧ Int32.ofInt (-1) = (-1 : Int32) := by decide +kernel
theorem q245_14 : qD 245 14 (.ireturn) 1 15 ∧ mR 245 = some .int := by decide +kernel
theorem q245_15 : qD 245 15 (.aload_n 0) 1 16 ∧ ((0 : Fin 4) : Nat) = 0 := by decide +kernel
theorem q245_16 : qD 245 16 (.lload_n 2) 1 17 ∧ ((2 : Fin 4) : Nat) = 2 := by decide +kernel
theorem q245_17 : qP 245 17 393 20 11 39 1304 1 := by decide +kernel
theorem q245_20 : qD 245 20 (.iconst 0) 1 21 ∧ Int32.ofInt (0) = (0 : Int32) := by decide +kernel
theorem q245_21 : qD 245 21 (.istore 4) 2 23 ∧ 4 < mL 245 := by decide +kernel
theorem q245_23 : qD 245 23 (.iload 4) 2 25 := by decide +kernel
theorem q245_25 : qD 245 25 (.iload_n 1) 1 26 ∧ ((1 : Fin 4) : Nat) = 1 := by decide +kernel
theorem q245_26 : qJ 245 26 (.if_icmp .ge 151) 29 (151) 177 := by decide +kernel
theorem q245_29 : qD 245 29 (.aload_n 0) 1 30 ∧ ((0 : Fin 4) : Nat) = 0 := by decide +kernel
theorem q245_30 : qD 245 30 (.invokevirtual 360) 3 33 ∧ qI 245 360 228 1639 := by decide +kernel
theorem q245_33 : qD 245 33 (.iconst 0) 1 34 ∧ Int32.ofInt (0) = (0 : Int32) := by decide +kernel
theorem q245_34 : qD 245 34 (.istore 5) 2 36 ∧ 5 < mL 245 := by decide +kernel
theorem q245_36 : qD 245 36 (.iload 5) 2 38 := by decide +kernel
theorem q245_38 : qD 245 38 (.aload_n 0) 1 39 ∧ ((0 : Fin 4) : Nat) = 0 := by decide +kernel
theorem q245_39 : qG 245 39 288 42 11 27 1292 0 := by decide +kernel
theorem q245_42 : qJ 245 42 (.if_icmp .ge 58) 45 (58) 100 := by decide +kernel
theorem q245_45 : qD 245 45 (.aload_n 0) 1 46 ∧ ((0 : Fin 4) : Nat) = 0 := by decide +kernel
theorem q245_46 : qG 245 46 61 49 11 32 1297 2 := by decide +kernel
theorem q245_49 : qD 245 49 (.bipush 28) 2 51 ∧ (Int8.ofInt (28)).toInt32 = (28 : Int32) := by decide +kernel
theorem q245_51 : qD 245 51 (.iaload) 1 52 := by decide +kernel
theorem q245_52 : qD 245 52 (.iload 5) 2 54 := by decide +kernel
theorem q245_54 : qD 245 54 (.invokestatic 223) 3 57 ∧ qI 245 223 171 1490 := by decide +kernel
theorem q245_57 : qJ 245 57 (.ifCond .ne 37) 60 (37) 94 := by decide +kernel
theorem q245_60 : qD 245 60 (.aload_n 0) 1 61 ∧ ((0 : Fin 4) : Nat) = 0 := by decide +kernel
theorem q245_61 : qD 245 61 (.bipush 10) 2 63 ∧ (Int8.ofInt (10)).toInt32 = (10 : Int32) := by decide +kernel
theorem q245_63 : qD 245 63 (.invokevirtual 401) 3 66 ∧ qI 245 401 243 1734 := by decide +kernel
theorem q245_66 : qD 245 66 (.aload_n 0) 1 67 ∧ ((0 : Fin 4) : Nat) = 0 := by decide +kernel
theorem q245_67 : qG 245 67 49 70 11 22 1287 2 := by decide +kernel
theorem q245_70 : qD 245 70 (.iconst 2) 1 71 ∧ Int32.ofInt (2) = (2 : Int32) := by decide +kernel
theorem q245_71 : qD 245 71 (.iload 5) 2 73 := by decide +kernel
theorem q245_73 : qD 245 73 (.imul) 1 74 := by decide +kernel
theorem q245_74 : qD 245 74 (.iconst 1) 1 75 ∧ Int32.ofInt (1) = (1 : Int32) := by decide +kernel
theorem q245_75 : qD 245 75 (.iadd) 1 76 := by decide +kernel
theorem q245_76 : qD 245 76 (.iaload) 1 77 := by decide +kernel
theorem q245_77 : qJ 245 77 (.if_icmp .ge 17) 80 (17) 94 := by decide +kernel
theorem q245_80 : qD 245 80 (.aload_n 0) 1 81 ∧ ((0 : Fin 4) : Nat) = 0 := by decide +kernel
theorem q245_81 : qG 245 81 61 84 11 32 1297 2 := by decide +kernel
theorem q245_84 : qD 245 84 (.bipush 28) 2 86 ∧ (Int8.ofInt (28)).toInt32 = (28 : Int32) := by decide +kernel
theorem q245_86 : qD 245 86 (.dup2) 1 87 := by decide +kernel
theorem q245_87 : qD 245 87 (.iaload) 1 88 := by decide +kernel
theorem q245_88 : qD 245 88 (.iconst 1) 1 89 ∧ Int32.ofInt (1) = (1 : Int32) := by decide +kernel
theorem q245_89 : qD 245 89 (.iload 5) 2 91 := by decide +kernel
theorem q245_91 : qD 245 91 (.ishl) 1 92 := by decide +kernel
theorem q245_92 : qD 245 92 (.ior) 1 93 := by decide +kernel
theorem q245_93 : qD 245 93 (.iastore) 1 94 := by decide +kernel
theorem q245_94 : qD 245 94 (.iinc 5 1) 3 97 ∧ 5 < mL 245 ∧ Int32.ofInt (1) = (1 : Int32) := by decide +kernel
theorem q245_97 : qJ 245 97 (.goto (-61)) 100 (-61) 36 := by decide +kernel
theorem q245_100 : qD 245 100 (.aload_n 0) 1 101 ∧ ((0 : Fin 4) : Nat) = 0 := by decide +kernel
theorem q245_101 : qD 245 101 (.aload_n 0) 1 102 ∧ ((0 : Fin 4) : Nat) = 0 := by decide +kernel
theorem q245_102 : qG 245 102 61 105 11 32 1297 2 := by decide +kernel
theorem q245_105 : qD 245 105 (.invokevirtual 363) 3 108 ∧ qI 245 363 231 1647 := by decide +kernel
theorem q245_108 : qJ 245 108 (.ifCond .eq 14) 111 (14) 122 := by decide +kernel
theorem q245_111 : qD 245 111 (.aload_n 0) 1 112 ∧ ((0 : Fin 4) : Nat) = 0 := by decide +kernel
theorem q245_112 : qD 245 112 (.aload_n 0) 1 113 ∧ ((0 : Fin 4) : Nat) = 0 := by decide +kernel
theorem q245_113 : qG 245 113 61 116 11 32 1297 2 := by decide +kernel
theorem q245_116 : qD 245 116 (.invokevirtual 366) 3 119 ∧ qI 245 366 220 1655 := by decide +kernel
theorem q245_119 : qJ 245 119 (.goto 4) 122 (4) 123 := by decide +kernel
theorem q245_122 : qD 245 122 (.iconst 0) 1 123 ∧ Int32.ofInt (0) = (0 : Int32) := by decide +kernel
theorem q245_123 : qD 245 123 (.istore 5) 2 125 ∧ 5 < mL 245 := by decide +kernel
theorem q245_125 : qD 245 125 (.aload_n 0) 1 126 ∧ ((0 : Fin 4) : Nat) = 0 := by decide +kernel
theorem q245_126 : qD 245 126 (.aload_n 0) 1 127 ∧ ((0 : Fin 4) : Nat) = 0 := by decide +kernel
theorem q245_127 : qG 245 127 61 130 11 32 1297 2 := by decide +kernel
theorem q245_130 : qD 245 130 (.invokevirtual 318) 3 133 ∧ qI 245 318 213 1659 := by decide +kernel
theorem q245_133 : qD 245 133 (.istore 6) 2 135 ∧ 6 < mL 245 := by decide +kernel
theorem q245_135 : qD 245 135 (.aload_n 0) 1 136 ∧ ((0 : Fin 4) : Nat) = 0 := by decide +kernel
theorem q245_136 : qD 245 136 (.bipush 10) 2 138 ∧ (Int8.ofInt (10)).toInt32 = (10 : Int32) := by decide +kernel
theorem q245_138 : qD 245 138 (.invokevirtual 401) 3 141 ∧ qI 245 401 243 1734 := by decide +kernel
theorem q245_141 : qD 245 141 (.aload_n 0) 1 142 ∧ ((0 : Fin 4) : Nat) = 0 := by decide +kernel
theorem q245_142 : qG 245 142 354 145 11 35 1300 0 := by decide +kernel
theorem q245_145 : qJ 245 145 (.if_icmp .ge 18) 148 (18) 163 := by decide +kernel
theorem q245_148 : qD 245 148 (.aload_n 0) 1 149 ∧ ((0 : Fin 4) : Nat) = 0 := by decide +kernel
theorem q245_149 : qG 245 149 61 152 11 32 1297 2 := by decide +kernel
theorem q245_152 : qD 245 152 (.iload 6) 2 154 := by decide +kernel
theorem q245_154 : qD 245 154 (.aload_n 0) 1 155 ∧ ((0 : Fin 4) : Nat) = 0 := by decide +kernel
theorem q245_155 : qD 245 155 (.iload 6) 2 157 := by decide +kernel
theorem q245_157 : qD 245 157 (.invokevirtual 404) 3 160 ∧ qI 245 404 244 1740 := by decide +kernel
theorem q245_160 : qD 245 160 (.invokestatic 372) 3 163 ∧ qI 245 372 234 1694 := by decide +kernel
theorem q245_163 : qD 245 163 (.aload_n 0) 1 164 ∧ ((0 : Fin 4) : Nat) = 0 := by decide +kernel
theorem q245_164 : qD 245 164 (.aload_n 0) 1 165 ∧ ((0 : Fin 4) : Nat) = 0 := by decide +kernel
theorem q245_165 : qG 245 165 61 168 11 32 1297 2 := by decide +kernel
theorem q245_168 : qD 245 168 (.invokevirtual 389) 3 171 ∧ qI 245 389 221 1726 := by decide +kernel
theorem q245_171 : qD 245 171 (.iinc 4 1) 3 174 ∧ 4 < mL 245 ∧ Int32.ofInt (1) = (1 : Int32) := by decide +kernel
theorem q245_174 : qJ 245 174 (.goto (-151)) 177 (-151) 23 := by decide +kernel
theorem q245_177 : qD 245 177 (.aload_n 0) 1 178 ∧ ((0 : Fin 4) : Nat) = 0 := by decide +kernel
theorem q245_178 : qG 245 178 61 181 11 32 1297 2 := by decide +kernel
theorem q245_181 : qD 245 181 (.bipush 32) 2 183 ∧ (Int8.ofInt (32)).toInt32 = (32 : Int32) := by decide +kernel
theorem q245_183 : qD 245 183 (.iaload) 1 184 := by decide +kernel
theorem q245_184 : qD 245 184 (.ireturn) 1 185 ∧ mR 245 = some .int := by decide +kernel
theorem q246_0 : qD 246 0 (.aload_n 0) 1 1 ∧ ((0 : Fin 4) : Nat) = 0 := by decide +kernel
theorem q246_1 : qD 246 1 (.iconst 0) 1 2 ∧ Int32.ofInt (0) = (0 : Int32) := by decide +kernel
theorem q246_2 : qP 246 2 90 5 11 0 1265 0 := by decide +kernel
theorem q246_5 : qD 246 5 (.aload_n 0) 1 6 ∧ ((0 : Fin 4) : Nat) = 0 := by decide +kernel
theorem q246_6 : qG 246 6 297 9 11 38 1303 0 := by decide +kernel
theorem q246_9 : qJ 246 9 (.ifCond .ne 5) 12 (5) 14 := by decide +kernel
theorem q246_12 : qD 246 12 (.iconst (-1)) 1 13 ∧ Int32.ofInt (-1) = (-1 : Int32) := by decide +kernel
theorem q246_13 : qD 246 13 (.ireturn) 1 14 ∧ mR 246 = some .int := by decide +kernel
theorem q246_14 : qD 246 14 (.aload_n 0) 1 15 ∧ ((0 : Fin 4) : Nat) = 0 := by decide +kernel
theorem q246_15 : qD 246 15 (.dup) 1 16 := by decide +kernel
theorem q246_16 : qG 246 16 297 19 11 38 1303 0 := by decide +kernel
theorem q246_19 : qD 246 19 (.iconst 1) 1 20 ∧ Int32.ofInt (1) = (1 : Int32) := by decide +kernel
theorem q246_20 : qD 246 20 (.isub) 1 21 := by decide +kernel
theorem q246_21 : qP 246 21 297 24 11 38 1303 0 := by decide +kernel
theorem q246_24 : qD 246 24 (.iconst 0) 1 25 ∧ Int32.ofInt (0) = (0 : Int32) := by decide +kernel
theorem q246_25 : qD 246 25 (.istore_n 1) 1 26 ∧ ((1 : Fin 4) : Nat) = 1 ∧ 1 < mL 246 := by decide +kernel
theorem q246_26 : qD 246 26 (.iload_n 1) 1 27 ∧ ((1 : Fin 4) : Nat) = 1 := by decide +kernel
theorem q246_27 : qD 246 27 (.sipush 214) 3 30 ∧ (Int16.ofInt (214)).toInt32 = (214 : Int32) := by decide +kernel
theorem q246_30 : qJ 246 30 (.if_icmp .ge 30) 33 (30) 60 := by decide +kernel
theorem q246_33 : qD 246 33 (.aload_n 0) 1 34 ∧ ((0 : Fin 4) : Nat) = 0 := by decide +kernel
theorem q246_34 : qG 246 34 61 37 11 32 1297 2 := by decide +kernel
theorem q246_37 : qD 246 37 (.iload_n 1) 1 38 ∧ ((1 : Fin 4) : Nat) = 1 := by decide +kernel
theorem q246_38 : qD 246 38 (.aload_n 0) 1 39 ∧ ((0 : Fin 4) : Nat) = 0 := by decide +kernel
theorem q246_39 : qG 246 39 74 42 11 37 1302 2 := by decide +kernel
theorem q246_42 : qD 246 42 (.sipush 214) 3 45 ∧ (Int16.ofInt (214)).toInt32 = (214 : Int32) := by decide +kernel
theorem q246_45 : qD 246 45 (.aload_n 0) 1 46 ∧ ((0 : Fin 4) : Nat) = 0 := by decide +kernel
theorem q246_46 : qG 246 46 297 49 11 38 1303 0 := by decide +kernel
theorem q246_49 : qD 246 49 (.imul) 1 50 := by decide +kernel
theorem q246_50 : qD 246 50 (.iload_n 1) 1 51 ∧ ((1 : Fin 4) : Nat) = 1 := by decide +kernel
theorem q246_51 : qD 246 51 (.iadd) 1 52 := by decide +kernel
theorem q246_52 : qD 246 52 (.iaload) 1 53 := by decide +kernel
theorem q246_53 : qD 246 53 (.iastore) 1 54 := by decide +kernel
theorem q246_54 : qD 246 54 (.iinc 1 1) 3 57 ∧ 1 < mL 246 ∧ Int32.ofInt (1) = (1 : Int32) := by decide +kernel
theorem q246_57 : qJ 246 57 (.goto (-31)) 60 (-31) 26 := by decide +kernel
theorem q246_60 : qD 246 60 (.aload_n 0) 1 61 ∧ ((0 : Fin 4) : Nat) = 0 := by decide +kernel
theorem q246_61 : qG 246 61 297 64 11 38 1303 0 := by decide +kernel
theorem q246_64 : qD 246 64 (.ireturn) 1 65 ∧ mR 246 = some .int := by decide +kernel
theorem q247_0 : qD 247 0 (.aload_n 0) 1 1 ∧ ((0 : Fin 4) : Nat) = 0 := by decide +kernel
theorem q247_1 : qD 247 1 (.iconst 0) 1 2 ∧ Int32.ofInt (0) = (0 : Int32) := by decide +kernel
theorem q247_2 : qP 247 2 90 5 11 0 1265 0 := by decide +kernel
theorem q247_5 : qD 247 5 (.iload_n 1) 1 6 ∧ ((1 : Fin 4) : Nat) = 1 := by decide +kernel
theorem q247_6 : qD 247 6 (.i2l) 1 7 := by decide +kernel
theorem q247_7 : qD 247 7 (.lconst 0) 1 8 ∧ Int64.ofNat ((0 : Fin 2) : Nat) = 0 := by decide +kernel
theorem q247_8 : qD 247 8 (.aload_n 0) 1 9 ∧ ((0 : Fin 4) : Nat) = 0 := by decide +kernel
theorem q247_9 : qG 247 9 61 12 11 32 1297 2 := by decide +kernel
theorem q247_12 : qD 247 12 (.bipush 33) 2 14 ∧ (Int8.ofInt (33)).toInt32 = (33 : Int32) := by decide +kernel
theorem q247_14 : qD 247 14 (.iaload) 1 15 := by decide +kernel
theorem q247_15 : qD 247 15 (.iconst 1) 1 16 ∧ Int32.ofInt (1) = (1 : Int32) := by decide +kernel
theorem q247_16 : qD 247 16 (.isub) 1 17 := by decide +kernel
theorem q247_17 : qD 247 17 (.i2l) 1 18 := by decide +kernel
theorem q247_18 : qD 247 18 (.invokestatic 211) 3 21 ∧ qI 247 211 170 1435 := by decide +kernel
theorem q247_21 : qJ 247 21 (.ifCond .eq 41) 24 (41) 62 := by decide +kernel
theorem q247_24 : qD 247 24 (.iload_n 2) 1 25 ∧ ((2 : Fin 4) : Nat) = 2 := by decide +kernel
theorem q247_25 : qD 247 25 (.i2l) 1 26 := by decide +kernel
theorem q247_26 : qD 247 26 (.lconst 0) 1 27 ∧ Int64.ofNat ((0 : Fin 2) : Nat) = 0 := by decide +kernel
theorem q247_27 : qD 247 27 (.ldc2_w 266) 3 30 ∧ inG 1434 (.constantLong (mN 247).cls 266 (2)) := by decide +kernel
theorem q247_30 : qD 247 30 (.invokestatic 211) 3 33 ∧ qI 247 211 170 1435 := by decide +kernel
theorem q247_33 : qJ 247 33 (.ifCond .eq 29) 36 (29) 62 := by decide +kernel
theorem q247_36 : qD 247 36 (.aload_n 0) 1 37 ∧ ((0 : Fin 4) : Nat) = 0 := by decide +kernel
theorem q247_37 : qG 247 37 61 40 11 32 1297 2 := by decide +kernel
theorem q247_40 : qD 247 40 (.bipush 34) 2 42 ∧ (Int8.ofInt (34)).toInt32 = (34 : Int32) := by decide +kernel
theorem q247_42 : qD 247 42 (.iconst 3) 1 43 ∧ Int32.ofInt (3) = (3 : Int32) := by decide +kernel
theorem q247_43 : qD 247 43 (.aload_n 0) 1 44 ∧ ((0 : Fin 4) : Nat) = 0 := by decide +kernel
theorem q247_44 : qG 247 44 61 47 11 32 1297 2 := by decide +kernel
theorem q247_47 : qD 247 47 (.bipush 33) 2 49 ∧ (Int8.ofInt (33)).toInt32 = (33 : Int32) := by decide +kernel
theorem q247_49 : qD 247 49 (.iaload) 1 50 := by decide +kernel
theorem q247_50 : qD 247 50 (.iconst 1) 1 51 ∧ Int32.ofInt (1) = (1 : Int32) := by decide +kernel
theorem q247_51 : qD 247 51 (.isub) 1 52 := by decide +kernel
theorem q247_52 : qD 247 52 (.iload_n 1) 1 53 ∧ ((1 : Fin 4) : Nat) = 1 := by decide +kernel
theorem q247_53 : qD 247 53 (.isub) 1 54 := by decide +kernel
theorem q247_54 : qD 247 54 (.imul) 1 55 := by decide +kernel
theorem q247_55 : qD 247 55 (.iadd) 1 56 := by decide +kernel
theorem q247_56 : qD 247 56 (.iload_n 2) 1 57 ∧ ((2 : Fin 4) : Nat) = 2 := by decide +kernel
theorem q247_57 : qD 247 57 (.iadd) 1 58 := by decide +kernel
theorem q247_58 : qD 247 58 (.iaload) 1 59 := by decide +kernel
theorem q247_59 : qJ 247 59 (.goto 4) 62 (4) 63 := by decide +kernel
theorem q247_62 : qD 247 62 (.iconst (-1)) 1 63 ∧ Int32.ofInt (-1) = (-1 : Int32) := by decide +kernel
theorem q247_63 : qD 247 63 (.ireturn) 1 64 ∧ mR 247 = some .int := by decide +kernel
theorem q248_0 : qD 248 0 (.iload_n 1) 1 1 ∧ ((1 : Fin 4) : Nat) = 1 := by decide +kernel
theorem q248_1 : qJ 248 1 (.ifCond .lt 15) 4 (15) 16 := by decide +kernel
theorem q248_4 : qD 248 4 (.iload_n 1) 1 5 ∧ ((1 : Fin 4) : Nat) = 1 := by decide +kernel
theorem q248_5 : qD 248 5 (.aload_n 0) 1 6 ∧ ((0 : Fin 4) : Nat) = 0 := by decide +kernel
theorem q248_6 : qG 248 6 280 9 11 30 1295 0 := by decide +kernel
theorem q248_9 : qJ 248 9 (.if_icmp .ge 7) 12 (7) 16 := by decide +kernel
theorem q248_12 : qD 248 12 (.iconst 1) 1 13 ∧ Int32.ofInt (1) = (1 : Int32) := by decide +kernel
theorem q248_13 : qJ 248 13 (.goto 4) 16 (4) 17 := by decide +kernel
theorem q248_16 : qD 248 16 (.iconst 0) 1 17 ∧ Int32.ofInt (0) = (0 : Int32) := by decide +kernel
theorem q248_17 : qD 248 17 (.ireturn) 1 18 ∧ mR 248 = some .boolean := by decide +kernel
theorem q249_0 : qD 249 0 (.aload_n 0) 1 1 ∧ ((0 : Fin 4) : Nat) = 0 := by decide +kernel
theorem q249_1 : qD 249 1 (.iconst 0) 1 2 ∧ Int32.ofInt (0) = (0 : Int32) := by decide +kernel
theorem q249_2 : qP 249 2 90 5 11 0 1265 0 := by decide +kernel
theorem q249_5 : qD 249 5 (.aload_n 0) 1 6 ∧ ((0 : Fin 4) : Nat) = 0 := by decide +kernel
theorem q249_6 : qD 249 6 (.iload_n 1) 1 7 ∧ ((1 : Fin 4) : Nat) = 1 := by decide +kernel
theorem q249_7 : qD 249 7 (.invokevirtual 407) 3 10 ∧ qI 249 407 248 1756 := by decide +kernel
theorem q249_10 : qJ 249 10 (.ifCond .eq 51) 13 (51) 61 := by decide +kernel
theorem q249_13 : qD 249 13 (.iload_n 2) 1 14 ∧ ((2 : Fin 4) : Nat) = 2 := by decide +kernel
theorem q249_14 : qD 249 14 (.i2l) 1 15 := by decide +kernel
theorem q249_15 : qD 249 15 (.lconst 0) 1 16 ∧ Int64.ofNat ((0 : Fin 2) : Nat) = 0 := by decide +kernel
theorem q249_16 : qD 249 16 (.aload_n 0) 1 17 ∧ ((0 : Fin 4) : Nat) = 0 := by decide +kernel
theorem q249_17 : qG 249 17 58 20 11 25 1290 2 := by decide +kernel
theorem q249_20 : qD 249 20 (.iload_n 1) 1 21 ∧ ((1 : Fin 4) : Nat) = 1 := by decide +kernel
theorem q249_21 : qD 249 21 (.iaload) 1 22 := by decide +kernel
theorem q249_22 : qD 249 22 (.iconst 1) 1 23 ∧ Int32.ofInt (1) = (1 : Int32) := by decide +kernel
theorem q249_23 : qD 249 23 (.isub) 1 24 := by decide +kernel
theorem q249_24 : qD 249 24 (.i2l) 1 25 := by decide +kernel
theorem q249_25 : qD 249 25 (.invokestatic 211) 3 28 ∧ qI 249 211 170 1435 := by decide +kernel
theorem q249_28 : qJ 249 28 (.ifCond .eq 33) 31 (33) 61 := by decide +kernel
theorem q249_31 : qD 249 31 (.iload_n 3) 1 32 ∧ ((3 : Fin 4) : Nat) = 3 := by decide +kernel
theorem q249_32 : qD 249 32 (.i2l) 1 33 := by decide +kernel
theorem q249_33 : qD 249 33 (.lconst 0) 1 34 ∧ Int64.ofNat ((0 : Fin 2) : Nat) = 0 := by decide +kernel
theorem q249_34 : qD 249 34 (.ldc2_w 266) 3 37 ∧ inG 1434 (.constantLong (mN 249).cls 266 (2)) := by decide +kernel
theorem q249_37 : qD 249 37 (.invokestatic 211) 3 40 ∧ qI 249 211 170 1435 := by decide +kernel
theorem q249_40 : qJ 249 40 (.ifCond .eq 21) 43 (21) 61 := by decide +kernel
theorem q249_43 : qD 249 43 (.aload_n 0) 1 44 ∧ ((0 : Fin 4) : Nat) = 0 := by decide +kernel
theorem q249_44 : qG 249 44 55 47 11 24 1289 2 := by decide +kernel
theorem q249_47 : qD 249 47 (.iconst 3) 1 48 ∧ Int32.ofInt (3) = (3 : Int32) := by decide +kernel
theorem q249_48 : qD 249 48 (.bipush 16) 2 50 ∧ (Int8.ofInt (16)).toInt32 = (16 : Int32) := by decide +kernel
theorem q249_50 : qD 249 50 (.iload_n 1) 1 51 ∧ ((1 : Fin 4) : Nat) = 1 := by decide +kernel
theorem q249_51 : qD 249 51 (.imul) 1 52 := by decide +kernel
theorem q249_52 : qD 249 52 (.iload_n 2) 1 53 ∧ ((2 : Fin 4) : Nat) = 2 := by decide +kernel
theorem q249_53 : qD 249 53 (.iadd) 1 54 := by decide +kernel
theorem q249_54 : qD 249 54 (.imul) 1 55 := by decide +kernel
theorem q249_55 : qD 249 55 (.iload_n 3) 1 56 ∧ ((3 : Fin 4) : Nat) = 3 := by decide +kernel
theorem q249_56 : qD 249 56 (.iadd) 1 57 := by decide +kernel
theorem q249_57 : qD 249 57 (.iaload) 1 58 := by decide +kernel
theorem q249_58 : qJ 249 58 (.goto 6) 61 (6) 64 := by decide +kernel
theorem q249_61 : qD 249 61 (.ldc_w 410) 3 64 ∧ inG 1760 (.constant (mN 249).cls 410 (-1000000)) := by decide +kernel
theorem q249_64 : qD 249 64 (.ireturn) 1 65 ∧ mR 249 = some .int := by decide +kernel
theorem q250_0 : qD 250 0 (.aload_n 0) 1 1 ∧ ((0 : Fin 4) : Nat) = 0 := by decide +kernel
theorem q250_1 : qG 250 1 55 4 11 24 1289 2 := by decide +kernel
theorem q250_4 : qD 250 4 (.iload_n 2) 1 5 ∧ ((2 : Fin 4) : Nat) = 2 := by decide +kernel
theorem q250_5 : qD 250 5 (.iaload) 1 6 := by decide +kernel
theorem q250_6 : qD 250 6 (.tableswitch 77 0 3 #[30, 44, 65, 71]) 30 36 ∧ (6 : Int) + (77) = (83 : Int) ∧ ((3 : Int) - (0) + 1).toNat = (#[30, 44, 65, 71] : Array Int).size := by decide +kernel
theorem q250_36 : qD 250 36 (.aload_n 0) 1 37 ∧ ((0 : Fin 4) : Nat) = 0 := by decide +kernel
theorem q250_37 : qD 250 37 (.aload_n 1) 1 38 ∧ ((1 : Fin 4) : Nat) = 1 := by decide +kernel
theorem q250_38 : qD 250 38 (.aload_n 0) 1 39 ∧ ((0 : Fin 4) : Nat) = 0 := by decide +kernel
theorem q250_39 : qG 250 39 55 42 11 24 1289 2 := by decide +kernel
theorem q250_42 : qD 250 42 (.iload_n 2) 1 43 ∧ ((2 : Fin 4) : Nat) = 2 := by decide +kernel
theorem q250_43 : qD 250 43 (.iconst 1) 1 44 ∧ Int32.ofInt (1) = (1 : Int32) := by decide +kernel
theorem q250_44 : qD 250 44 (.iadd) 1 45 := by decide +kernel
theorem q250_45 : qD 250 45 (.iaload) 1 46 := by decide +kernel
theorem q250_46 : qD 250 46 (.invokevirtual 357) 3 49 ∧ qI 250 357 229 1635 := by decide +kernel
theorem q250_49 : qD 250 49 (.ireturn) 1 50 ∧ mR 250 = some .boolean := by decide +kernel
theorem q250_50 : qD 250 50 (.aload_n 0) 1 51 ∧ ((0 : Fin 4) : Nat) = 0 := by decide +kernel
theorem q250_51 : qD 250 51 (.aload_n 0) 1 52 ∧ ((0 : Fin 4) : Nat) = 0 := by decide +kernel
theorem q250_52 : qG 250 52 55 55 11 24 1289 2 := by decide +kernel
theorem q250_55 : qD 250 55 (.iload_n 2) 1 56 ∧ ((2 : Fin 4) : Nat) = 2 := by decide +kernel
theorem q250_56 : qD 250 56 (.iconst 1) 1 57 ∧ Int32.ofInt (1) = (1 : Int32) := by decide +kernel
theorem q250_57 : qD 250 57 (.iadd) 1 58 := by decide +kernel
theorem q250_58 : qD 250 58 (.iaload) 1 59 := by decide +kernel
theorem q250_59 : qD 250 59 (.aload_n 0) 1 60 ∧ ((0 : Fin 4) : Nat) = 0 := by decide +kernel
theorem q250_60 : qG 250 60 55 63 11 24 1289 2 := by decide +kernel
theorem q250_63 : qD 250 63 (.iload_n 2) 1 64 ∧ ((2 : Fin 4) : Nat) = 2 := by decide +kernel
theorem q250_64 : qD 250 64 (.iconst 2) 1 65 ∧ Int32.ofInt (2) = (2 : Int32) := by decide +kernel
theorem q250_65 : qD 250 65 (.iadd) 1 66 := by decide +kernel
theorem q250_66 : qD 250 66 (.iaload) 1 67 := by decide +kernel
theorem q250_67 : qD 250 67 (.invokevirtual 369) 3 70 ∧ qI 250 369 233 1690 := by decide +kernel
theorem q250_70 : qD 250 70 (.ireturn) 1 71 ∧ mR 250 = some .boolean := by decide +kernel
theorem q250_71 : qD 250 71 (.aload_n 0) 1 72 ∧ ((0 : Fin 4) : Nat) = 0 := by decide +kernel
theorem q250_72 : qD 250 72 (.aload_n 1) 1 73 ∧ ((1 : Fin 4) : Nat) = 1 := by decide +kernel
theorem q250_73 : qD 250 73 (.invokevirtual 363) 3 76 ∧ qI 250 363 231 1647 := by decide +kernel
theorem q250_76 : qD 250 76 (.ireturn) 1 77 ∧ mR 250 = some .boolean := by decide +kernel
theorem q250_77 : qD 250 77 (.aload_n 0) 1 78 ∧ ((0 : Fin 4) : Nat) = 0 := by decide +kernel
theorem q250_78 : qD 250 78 (.aload_n 1) 1 79 ∧ ((1 : Fin 4) : Nat) = 1 := by decide +kernel
theorem q250_79 : qD 250 79 (.invokevirtual 378) 3 82 ∧ qI 250 378 238 1705 := by decide +kernel
theorem q250_82 : qD 250 82 (.ireturn) 1 83 ∧ mR 250 = some .boolean := by decide +kernel
theorem q250_83 : qD 250 83 (.aload_n 1) 1 84 ∧ ((1 : Fin 4) : Nat) = 1 := by decide +kernel
theorem q250_84 : qD 250 84 (.bipush 32) 2 86 ∧ (Int8.ofInt (32)).toInt32 = (32 : Int32) := by decide +kernel
theorem q250_86 : qD 250 86 (.iaload) 1 87 := by decide +kernel
theorem q250_87 : qD 250 87 (.sipush 9999) 3 90 ∧ (Int16.ofInt (9999)).toInt32 = (9999 : Int32) := by decide +kernel
theorem q250_90 : qJ 250 90 (.if_icmp .ge 7) 93 (7) 97 := by decide +kernel
theorem q250_93 : qD 250 93 (.iconst 1) 1 94 ∧ Int32.ofInt (1) = (1 : Int32) := by decide +kernel
theorem q250_94 : qJ 250 94 (.goto 4) 97 (4) 98 := by decide +kernel
theorem q250_97 : qD 250 97 (.iconst 0) 1 98 ∧ Int32.ofInt (0) = (0 : Int32) := by decide +kernel
theorem q250_98 : qD 250 98 (.ireturn) 1 99 ∧ mR 250 = some .boolean := by decide +kernel
theorem q251_0 : qD 251 0 (.aload_n 0) 1 1 ∧ ((0 : Fin 4) : Nat) = 0 := by decide +kernel
theorem q251_1 : qG 251 1 55 4 11 24 1289 2 := by decide +kernel
theorem q251_4 : qD 251 4 (.iload_n 2) 1 5 ∧ ((2 : Fin 4) : Nat) = 2 := by decide +kernel
theorem q251_5 : qD 251 5 (.iaload) 1 6 := by decide +kernel
theorem q251_6 : qD 251 6 (.tableswitch 92 0 3 #[30, 50, 73, 82]) 30 36 ∧ (6 : Int) + (92) = (98 : Int) ∧ ((3 : Int) - (0) + 1).toNat = (#[30, 50, 73, 82] : Array Int).size := by decide +kernel
theorem q251_36 : qD 251 36 (.aload_n 1) 1 37 ∧ ((1 : Fin 4) : Nat) = 1 := by decide +kernel
theorem q251_37 : qD 251 37 (.bipush 28) 2 39 ∧ (Int8.ofInt (28)).toInt32 = (28 : Int32) := by decide +kernel
theorem q251_39 : qD 251 39 (.dup2) 1 40 := by decide +kernel
theorem q251_40 : qD 251 40 (.iaload) 1 41 := by decide +kernel
theorem q251_41 : qD 251 41 (.iconst 1) 1 42 ∧ Int32.ofInt (1) = (1 : Int32) := by decide +kernel
theorem q251_42 : qD 251 42 (.aload_n 0) 1 43 ∧ ((0 : Fin 4) : Nat) = 0 := by decide +kernel
theorem q251_43 : qG 251 43 55 46 11 24 1289 2 := by decide +kernel
theorem q251_46 : qD 251 46 (.iload_n 2) 1 47 ∧ ((2 : Fin 4) : Nat) = 2 := by decide +kernel
theorem q251_47 : qD 251 47 (.iconst 1) 1 48 ∧ Int32.ofInt (1) = (1 : Int32) := by decide +kernel
theorem q251_48 : qD 251 48 (.iadd) 1 49 := by decide +kernel
theorem q251_49 : qD 251 49 (.iaload) 1 50 := by decide +kernel
theorem q251_50 : qD 251 50 (.ishl) 1 51 := by decide +kernel
theorem q251_51 : qD 251 51 (.ior) 1 52 := by decide +kernel
theorem q251_52 : qD 251 52 (.iastore) 1 53 := by decide +kernel
theorem q251_53 : qJ 251 53 (.goto 50) 56 (50) 103 := by decide +kernel
theorem q251_56 : qD 251 56 (.aload_n 1) 1 57 ∧ ((1 : Fin 4) : Nat) = 1 := by decide +kernel
theorem q251_57 : qD 251 57 (.aload_n 0) 1 58 ∧ ((0 : Fin 4) : Nat) = 0 := by decide +kernel
theorem q251_58 : qG 251 58 55 61 11 24 1289 2 := by decide +kernel
theorem q251_61 : qD 251 61 (.iload_n 2) 1 62 ∧ ((2 : Fin 4) : Nat) = 2 := by decide +kernel
theorem q251_62 : qD 251 62 (.iconst 1) 1 63 ∧ Int32.ofInt (1) = (1 : Int32) := by decide +kernel
theorem q251_63 : qD 251 63 (.iadd) 1 64 := by decide +kernel
theorem q251_64 : qD 251 64 (.iaload) 1 65 := by decide +kernel
theorem q251_65 : qD 251 65 (.aload_n 0) 1 66 ∧ ((0 : Fin 4) : Nat) = 0 := by decide +kernel
theorem q251_66 : qG 251 66 55 69 11 24 1289 2 := by decide +kernel
theorem q251_69 : qD 251 69 (.iload_n 2) 1 70 ∧ ((2 : Fin 4) : Nat) = 2 := by decide +kernel
theorem q251_70 : qD 251 70 (.iconst 2) 1 71 ∧ Int32.ofInt (2) = (2 : Int32) := by decide +kernel
theorem q251_71 : qD 251 71 (.iadd) 1 72 := by decide +kernel
theorem q251_72 : qD 251 72 (.iaload) 1 73 := by decide +kernel
theorem q251_73 : qD 251 73 (.invokestatic 372) 3 76 ∧ qI 251 372 234 1694 := by decide +kernel
theorem q251_76 : qJ 251 76 (.goto 27) 79 (27) 103 := by decide +kernel
theorem q251_79 : qD 251 79 (.aload_n 0) 1 80 ∧ ((0 : Fin 4) : Nat) = 0 := by decide +kernel
theorem q251_80 : qD 251 80 (.aload_n 1) 1 81 ∧ ((1 : Fin 4) : Nat) = 1 := by decide +kernel
theorem q251_81 : qD 251 81 (.invokevirtual 366) 3 84 ∧ qI 251 366 220 1655 := by decide +kernel
theorem q251_84 : qD 251 84 (.istore_n 3) 1 85 ∧ ((3 : Fin 4) : Nat) = 3 ∧ 3 < mL 251 := by decide +kernel
theorem q251_85 : qJ 251 85 (.goto 18) 88 (18) 103 := by decide +kernel
theorem q251_88 : qD 251 88 (.aload_n 0) 1 89 ∧ ((0 : Fin 4) : Nat) = 0 := by decide +kernel
theorem q251_89 : qD 251 89 (.aload_n 1) 1 90 ∧ ((1 : Fin 4) : Nat) = 1 := by decide +kernel
theorem q251_90 : qD 251 90 (.invokevirtual 381) 3 93 ∧ qI 251 381 239 1713 := by decide +kernel
theorem q251_93 : qD 251 93 (.istore 4) 2 95 ∧ 4 < mL 251 := by decide +kernel
theorem q251_95 : qJ 251 95 (.goto 8) 98 (8) 103 := by decide +kernel
theorem q251_98 : qD 251 98 (.aload_n 0) 1 99 ∧ ((0 : Fin 4) : Nat) = 0 := by decide +kernel
theorem q251_99 : qD 251 99 (.aload_n 1) 1 100 ∧ ((1 : Fin 4) : Nat) = 1 := by decide +kernel
theorem q251_100 : qD 251 100 (.invokevirtual 389) 3 103 ∧ qI 251 389 221 1726 := by decide +kernel
theorem q251_103 : qD 251 103 (.return_) 1 104 ∧ mR 251 = none := by decide +kernel
theorem q252_0 : qD 252 0 (.aload_n 0) 1 1 ∧ ((0 : Fin 4) : Nat) = 0 := by decide +kernel
theorem q252_1 : qD 252 1 (.iconst 0) 1 2 ∧ Int32.ofInt (0) = (0 : Int32) := by decide +kernel
theorem q252_2 : qP 252 2 90 5 11 0 1265 0 := by decide +kernel
theorem q252_5 : qD 252 5 (.aload_n 0) 1 6 ∧ ((0 : Fin 4) : Nat) = 0 := by decide +kernel
theorem q252_6 : qD 252 6 (.iload_n 1) 1 7 ∧ ((1 : Fin 4) : Nat) = 1 := by decide +kernel
theorem q252_7 : qD 252 7 (.invokevirtual 407) 3 10 ∧ qI 252 407 248 1756 := by decide +kernel
theorem q252_10 : qJ 252 10 (.ifCond .eq 20) 13 (20) 30 := by decide +kernel
theorem q252_13 : qD 252 13 (.aload_n 0) 1 14 ∧ ((0 : Fin 4) : Nat) = 0 := by decide +kernel
theorem q252_14 : qG 252 14 285 17 11 26 1291 0 := by decide +kernel
theorem q252_17 : qJ 252 17 (.ifCond .eq 13) 20 (13) 30 := by decide +kernel
theorem q252_20 : qD 252 20 (.iload_n 2) 1 21 ∧ ((2 : Fin 4) : Nat) = 2 := by decide +kernel
theorem q252_21 : qD 252 21 (.i2l) 1 22 := by decide +kernel
theorem q252_22 : qD 252 22 (.lconst 0) 1 23 ∧ Int64.ofNat ((0 : Fin 2) : Nat) = 0 := by decide +kernel
theorem q252_23 : qD 252 23 (.lconst 1) 1 24 ∧ Int64.ofNat ((1 : Fin 2) : Nat) = 1 := by decide +kernel
theorem q252_24 : qD 252 24 (.invokestatic 211) 3 27 ∧ qI 252 211 170 1435 := by decide +kernel
theorem q252_27 : qJ 252 27 (.ifCond .ne 7) 30 (7) 34 := by decide +kernel
theorem q252_30 : qD 252 30 (.ldc_w 410) 3 33 ∧ inG 1760 (.constant (mN 252).cls 410 (-1000000)) := by decide +kernel
theorem q252_33 : qD 252 33 (.ireturn) 1 34 ∧ mR 252 = some .int := by decide +kernel
theorem q252_34 : qD 252 34 (.aload_n 0) 1 35 ∧ ((0 : Fin 4) : Nat) = 0 := by decide +kernel
theorem q252_35 : qG 252 35 61 38 11 32 1297 2 := by decide +kernel
theorem q252_38 : qD 252 38 (.aload_n 0) 1 39 ∧ ((0 : Fin 4) : Nat) = 0 := by decide +kernel
theorem q252_39 : qG 252 39 64 42 11 33 1298 2 := by decide +kernel
theorem q252_42 : qD 252 42 (.invokestatic 411) 3 45 ∧ qI 252 411 208 1765 := by decide +kernel
theorem q252_45 : qD 252 45 (.iconst 0) 1 46 ∧ Int32.ofInt (0) = (0 : Int32) := by decide +kernel
theorem q252_46 : qD 252 46 (.istore_n 3) 1 47 ∧ ((3 : Fin 4) : Nat) = 3 ∧ 3 < mL 252 := by decide +kernel
theorem q252_47 : qD 252 47 (.iload_n 3) 1 48 ∧ ((3 : Fin 4) : Nat) = 3 := by decide +kernel
theorem q252_48 : qD 252 48 (.aload_n 0) 1 49 ∧ ((0 : Fin 4) : Nat) = 0 := by decide +kernel
theorem q252_49 : qG 252 49 58 52 11 25 1290 2 := by decide +kernel
theorem q252_52 : qD 252 52 (.iload_n 1) 1 53 ∧ ((1 : Fin 4) : Nat) = 1 := by decide +kernel
theorem q252_53 : qD 252 53 (.iaload) 1 54 := by decide +kernel
theorem q252_54 : qJ 252 54 (.if_icmp .ge 44) 57 (44) 98 := by decide +kernel
theorem q252_57 : qD 252 57 (.aload_n 0) 1 58 ∧ ((0 : Fin 4) : Nat) = 0 := by decide +kernel
theorem q252_58 : qD 252 58 (.aload_n 0) 1 59 ∧ ((0 : Fin 4) : Nat) = 0 := by decide +kernel
theorem q252_59 : qG 252 59 64 62 11 33 1298 2 := by decide +kernel
theorem q252_62 : qD 252 62 (.iconst 3) 1 63 ∧ Int32.ofInt (3) = (3 : Int32) := by decide +kernel
theorem q252_63 : qD 252 63 (.bipush 16) 2 65 ∧ (Int8.ofInt (16)).toInt32 = (16 : Int32) := by decide +kernel
theorem q252_65 : qD 252 65 (.iload_n 1) 1 66 ∧ ((1 : Fin 4) : Nat) = 1 := by decide +kernel
theorem q252_66 : qD 252 66 (.imul) 1 67 := by decide +kernel
theorem q252_67 : qD 252 67 (.iload_n 3) 1 68 ∧ ((3 : Fin 4) : Nat) = 3 := by decide +kernel
theorem q252_68 : qD 252 68 (.iadd) 1 69 := by decide +kernel
theorem q252_69 : qD 252 69 (.imul) 1 70 := by decide +kernel
theorem q252_70 : qD 252 70 (.invokevirtual 415) 3 73 ∧ qI 252 415 250 1768 := by decide +kernel
theorem q252_73 : qJ 252 73 (.ifCond .eq 25) 76 (25) 98 := by decide +kernel
theorem q252_76 : qD 252 76 (.aload_n 0) 1 77 ∧ ((0 : Fin 4) : Nat) = 0 := by decide +kernel
theorem q252_77 : qD 252 77 (.aload_n 0) 1 78 ∧ ((0 : Fin 4) : Nat) = 0 := by decide +kernel
theorem q252_78 : qG 252 78 64 81 11 33 1298 2 := by decide +kernel
theorem q252_81 : qD 252 81 (.iconst 3) 1 82 ∧ Int32.ofInt (3) = (3 : Int32) := by decide +kernel
theorem q252_82 : qD 252 82 (.bipush 16) 2 84 ∧ (Int8.ofInt (16)).toInt32 = (16 : Int32) := by decide +kernel
theorem q252_84 : qD 252 84 (.iload_n 1) 1 85 ∧ ((1 : Fin 4) : Nat) = 1 := by decide +kernel
theorem q252_85 : qD 252 85 (.imul) 1 86 := by decide +kernel
theorem q252_86 : qD 252 86 (.iload_n 3) 1 87 ∧ ((3 : Fin 4) : Nat) = 3 := by decide +kernel
theorem q252_87 : qD 252 87 (.iadd) 1 88 := by decide +kernel
theorem q252_88 : qD 252 88 (.imul) 1 89 := by decide +kernel
theorem q252_89 : qD 252 89 (.invokevirtual 418) 3 92 ∧ qI 252 418 251 1772 := by decide +kernel
theorem q252_92 : qD 252 92 (.iinc 3 1) 3 95 ∧ 3 < mL 252 ∧ Int32.ofInt (1) = (1 : Int32) := by decide +kernel
theorem q252_95 : qJ 252 95 (.goto (-48)) 98 (-48) 47 := by decide +kernel
theorem q252_98 : qD 252 98 (.iload_n 2) 1 99 ∧ ((2 : Fin 4) : Nat) = 2 := by decide +kernel
theorem q252_99 : qD 252 99 (.iconst 1) 1 100 ∧ Int32.ofInt (1) = (1 : Int32) := by decide +kernel
theorem q252_100 : qJ 252 100 (.if_icmp .ne 21) 103 (21) 121 := by decide +kernel
theorem q252_103 : qD 252 103 (.aload_n 0) 1 104 ∧ ((0 : Fin 4) : Nat) = 0 := by decide +kernel
theorem q252_104 : qG 252 104 64 107 11 33 1298 2 := by decide +kernel
theorem q252_107 : qD 252 107 (.iconst 4) 1 108 ∧ Int32.ofInt (4) = (4 : Int32) := by decide +kernel
theorem q252_108 : qD 252 108 (.aload_n 0) 1 109 ∧ ((0 : Fin 4) : Nat) = 0 := by decide +kernel
theorem q252_109 : qD 252 109 (.aload_n 0) 1 110 ∧ ((0 : Fin 4) : Nat) = 0 := by decide +kernel
theorem q252_110 : qG 252 110 64 113 11 33 1298 2 := by decide +kernel
theorem q252_113 : qD 252 113 (.invokevirtual 318) 3 116 ∧ qI 252 318 213 1659 := by decide +kernel
theorem q252_116 : qD 252 116 (.imul) 1 117 := by decide +kernel
theorem q252_117 : qD 252 117 (.iconst 1) 1 118 ∧ Int32.ofInt (1) = (1 : Int32) := by decide +kernel
theorem q252_118 : qD 252 118 (.iadd) 1 119 := by decide +kernel
theorem q252_119 : qD 252 119 (.iaload) 1 120 := by decide +kernel
theorem q252_120 : qD 252 120 (.ireturn) 1 121 ∧ mR 252 = some .int := by decide +kernel
theorem q252_121 : qD 252 121 (.iload_n 3) 1 122 ∧ ((3 : Fin 4) : Nat) = 3 := by decide +kernel
theorem q252_122 : qD 252 122 (.aload_n 0) 1 123 ∧ ((0 : Fin 4) : Nat) = 0 := by decide +kernel
theorem q252_123 : qG 252 123 58 126 11 25 1290 2 := by decide +kernel
theorem q252_126 : qD 252 126 (.iload_n 1) 1 127 ∧ ((1 : Fin 4) : Nat) = 1 := by decide +kernel
theorem q252_127 : qD 252 127 (.iaload) 1 128 := by decide +kernel
theorem q252_128 : qJ 252 128 (.if_icmp .ne 7) 131 (7) 135 := by decide +kernel
theorem q252_131 : qD 252 131 (.iconst (-1)) 1 132 ∧ Int32.ofInt (-1) = (-1 : Int32) := by decide +kernel
theorem q252_132 : qJ 252 132 (.goto 4) 135 (4) 136 := by decide +kernel
theorem q252_135 : qD 252 135 (.iload_n 3) 1 136 ∧ ((3 : Fin 4) : Nat) = 3 := by decide +kernel
theorem q252_136 : qD 252 136 (.ireturn) 1 137 ∧ mR 252 = some .int := by decide +kernel
theorem q253_0 : qD 253 0 (.aload_n 0) 1 1 ∧ ((0 : Fin 4) : Nat) = 0 := by decide +kernel
theorem q253_1 : qD 253 1 (.iconst 0) 1 2 ∧ Int32.ofInt (0) = (0 : Int32) := by decide +kernel
theorem q253_2 : qP 253 2 90 5 11 0 1265 0 := by decide +kernel
theorem q253_5 : qD 253 5 (.aload_n 0) 1 6 ∧ ((0 : Fin 4) : Nat) = 0 := by decide +kernel
theorem q253_6 : qD 253 6 (.iload_n 1) 1 7 ∧ ((1 : Fin 4) : Nat) = 1 := by decide +kernel
theorem q253_7 : qD 253 7 (.invokevirtual 407) 3 10 ∧ qI 253 407 248 1756 := by decide +kernel
theorem q253_10 : qJ 253 10 (.ifCond .eq 10) 13 (10) 20 := by decide +kernel
theorem q253_13 : qD 253 13 (.aload_n 0) 1 14 ∧ ((0 : Fin 4) : Nat) = 0 := by decide +kernel
theorem q253_14 : qG 253 14 285 17 11 26 1291 0 := by decide +kernel
theorem q253_17 : qJ 253 17 (.ifCond .ne 5) 20 (5) 22 := by decide +kernel
theorem q253_20 : qD 253 20 (.iconst (-1)) 1 21 ∧ Int32.ofInt (-1) = (-1 : Int32) := by decide +kernel
theorem q253_21 : qD 253 21 (.ireturn) 1 22 ∧ mR 253 = some .int := by decide +kernel
theorem q253_22 : qD 253 22 (.iconst 0) 1 23 ∧ Int32.ofInt (0) = (0 : Int32) := by decide +kernel
theorem q253_23 : qD 253 23 (.istore_n 2) 1 24 ∧ ((2 : Fin 4) : Nat) = 2 ∧ 2 < mL 253 := by decide +kernel
theorem q253_24 : qD 253 24 (.iload_n 2) 1 25 ∧ ((2 : Fin 4) : Nat) = 2 := by decide +kernel
theorem q253_25 : qD 253 25 (.aload_n 0) 1 26 ∧ ((0 : Fin 4) : Nat) = 0 := by decide +kernel
theorem q253_26 : qG 253 26 58 29 11 25 1290 2 := by decide +kernel
theorem q253_29 : qD 253 29 (.iload_n 1) 1 30 ∧ ((1 : Fin 4) : Nat) = 1 := by decide +kernel
theorem q253_30 : qD 253 30 (.iaload) 1 31 := by decide +kernel
theorem q253_31 : qJ 253 31 (.if_icmp .ge 48) 34 (48) 79 := by decide +kernel
theorem q253_34 : qD 253 34 (.aload_n 0) 1 35 ∧ ((0 : Fin 4) : Nat) = 0 := by decide +kernel
theorem q253_35 : qD 253 35 (.aload_n 0) 1 36 ∧ ((0 : Fin 4) : Nat) = 0 := by decide +kernel
theorem q253_36 : qG 253 36 61 39 11 32 1297 2 := by decide +kernel
theorem q253_39 : qD 253 39 (.iconst 3) 1 40 ∧ Int32.ofInt (3) = (3 : Int32) := by decide +kernel
theorem q253_40 : qD 253 40 (.bipush 16) 2 42 ∧ (Int8.ofInt (16)).toInt32 = (16 : Int32) := by decide +kernel
theorem q253_42 : qD 253 42 (.iload_n 1) 1 43 ∧ ((1 : Fin 4) : Nat) = 1 := by decide +kernel
theorem q253_43 : qD 253 43 (.imul) 1 44 := by decide +kernel
theorem q253_44 : qD 253 44 (.iload_n 2) 1 45 ∧ ((2 : Fin 4) : Nat) = 2 := by decide +kernel
theorem q253_45 : qD 253 45 (.iadd) 1 46 := by decide +kernel
theorem q253_46 : qD 253 46 (.imul) 1 47 := by decide +kernel
theorem q253_47 : qD 253 47 (.invokevirtual 415) 3 50 ∧ qI 253 415 250 1768 := by decide +kernel
theorem q253_50 : qJ 253 50 (.ifCond .eq 29) 53 (29) 79 := by decide +kernel
theorem q253_53 : qD 253 53 (.aload_n 0) 1 54 ∧ ((0 : Fin 4) : Nat) = 0 := by decide +kernel
theorem q253_54 : qD 253 54 (.invokevirtual 360) 3 57 ∧ qI 253 360 228 1639 := by decide +kernel
theorem q253_57 : qD 253 57 (.aload_n 0) 1 58 ∧ ((0 : Fin 4) : Nat) = 0 := by decide +kernel
theorem q253_58 : qD 253 58 (.aload_n 0) 1 59 ∧ ((0 : Fin 4) : Nat) = 0 := by decide +kernel
theorem q253_59 : qG 253 59 61 62 11 32 1297 2 := by decide +kernel
theorem q253_62 : qD 253 62 (.iconst 3) 1 63 ∧ Int32.ofInt (3) = (3 : Int32) := by decide +kernel
theorem q253_63 : qD 253 63 (.bipush 16) 2 65 ∧ (Int8.ofInt (16)).toInt32 = (16 : Int32) := by decide +kernel
theorem q253_65 : qD 253 65 (.iload_n 1) 1 66 ∧ ((1 : Fin 4) : Nat) = 1 := by decide +kernel
theorem q253_66 : qD 253 66 (.imul) 1 67 := by decide +kernel
theorem q253_67 : qD 253 67 (.iload_n 2) 1 68 ∧ ((2 : Fin 4) : Nat) = 2 := by decide +kernel
theorem q253_68 : qD 253 68 (.iadd) 1 69 := by decide +kernel
theorem q253_69 : qD 253 69 (.imul) 1 70 := by decide +kernel
theorem q253_70 : qD 253 70 (.invokevirtual 418) 3 73 ∧ qI 253 418 251 1772 := by decide +kernel
theorem q253_73 : qD 253 73 (.iinc 2 1) 3 76 ∧ 2 < mL 253 ∧ Int32.ofInt (1) = (1 : Int32) := by decide +kernel
theorem q253_76 : qJ 253 76 (.goto (-52)) 79 (-52) 24 := by decide +kernel
theorem q253_79 : qD 253 79 (.iload_n 2) 1 80 ∧ ((2 : Fin 4) : Nat) = 2 := by decide +kernel
theorem q253_80 : qD 253 80 (.ireturn) 1 81 ∧ mR 253 = some .int := by decide +kernel
theorem q254_0 : qD 254 0 (.aload_n 0) 1 1 ∧ ((0 : Fin 4) : Nat) = 0 := by decide +kernel
theorem q254_1 : qD 254 1 (.iconst 0) 1 2 ∧ Int32.ofInt (0) = (0 : Int32) := by decide +kernel
theorem q254_2 : qP 254 2 90 5 11 0 1265 0 := by decide +kernel
theorem q254_5 : qD 254 5 (.aload_n 0) 1 6 ∧ ((0 : Fin 4) : Nat) = 0 := by decide +kernel
theorem q254_6 : qD 254 6 (.iload_n 1) 1 7 ∧ ((1 : Fin 4) : Nat) = 1 := by decide +kernel
theorem q254_7 : qD 254 7 (.invokevirtual 349) 3 10 ∧ qI 254 349 210 1618 := by decide +kernel
theorem q254_10 : qJ 254 10 (.ifCond .eq 11) 13 (11) 21 := by decide +kernel
theorem q254_13 : qD 254 13 (.aload_n 0) 1 14 ∧ ((0 : Fin 4) : Nat) = 0 := by decide +kernel
theorem q254_14 : qD 254 14 (.iload_n 2) 1 15 ∧ ((2 : Fin 4) : Nat) = 2 := by decide +kernel
theorem q254_15 : qD 254 15 (.invokevirtual 344) 3 18 ∧ qI 254 344 209 1601 := by decide +kernel
theorem q254_18 : qJ 254 18 (.ifCond .ne 5) 21 (5) 23 := by decide +kernel
theorem q254_21 : qD 254 21 (.iconst (-1)) 1 22 ∧ Int32.ofInt (-1) = (-1 : Int32) := by decide +kernel
theorem q254_22 : qD 254 22 (.ireturn) 1 23 ∧ mR 254 = some .int := by decide +kernel
theorem q254_23 : qD 254 23 (.aload_n 0) 1 24 ∧ ((0 : Fin 4) : Nat) = 0 := by decide +kernel
theorem q254_24 : qD 254 24 (.aload_n 0) 1 25 ∧ ((0 : Fin 4) : Nat) = 0 := by decide +kernel
theorem q254_25 : qG 254 25 61 28 11 32 1297 2 := by decide +kernel
theorem q254_28 : qD 254 28 (.aload_n 0) 1 29 ∧ ((0 : Fin 4) : Nat) = 0 := by decide +kernel
theorem q254_29 : qG 254 29 37 32 11 18 1283 2 := by decide +kernel
theorem q254_32 : qD 254 32 (.iconst 0) 1 33 ∧ Int32.ofInt (0) = (0 : Int32) := by decide +kernel
theorem q254_33 : qD 254 33 (.iaload) 1 34 := by decide +kernel
theorem q254_34 : qD 254 34 (.iload_n 1) 1 35 ∧ ((1 : Fin 4) : Nat) = 1 := by decide +kernel
theorem q254_35 : qD 254 35 (.invokevirtual 314) 3 38 ∧ qI 254 314 215 1671 := by decide +kernel
theorem q254_38 : qD 254 38 (.aload_n 0) 1 39 ∧ ((0 : Fin 4) : Nat) = 0 := by decide +kernel
theorem q254_39 : qG 254 39 71 42 11 36 1301 2 := by decide +kernel
theorem q254_42 : qD 254 42 (.iload_n 2) 1 43 ∧ ((2 : Fin 4) : Nat) = 2 := by decide +kernel
theorem q254_43 : qD 254 43 (.iaload) 1 44 := by decide +kernel
theorem q254_44 : qD 254 44 (.ireturn) 1 45 ∧ mR 254 = some .int := by decide +kernel
theorem q255_0 : qD 255 0 (.aload_n 0) 1 1 ∧ ((0 : Fin 4) : Nat) = 0 := by decide +kernel
theorem q255_1 : qD 255 1 (.iconst 0) 1 2 ∧ Int32.ofInt (0) = (0 : Int32) := by decide +kernel
theorem q255_2 : qP 255 2 90 5 11 0 1265 0 := by decide +kernel
theorem q255_5 : qD 255 5 (.aload_n 0) 1 6 ∧ ((0 : Fin 4) : Nat) = 0 := by decide +kernel
theorem q255_6 : qD 255 6 (.iload_n 1) 1 7 ∧ ((1 : Fin 4) : Nat) = 1 := by decide +kernel
theorem q255_7 : qD 255 7 (.invokevirtual 349) 3 10 ∧ qI 255 349 210 1618 := by decide +kernel
theorem q255_10 : qJ 255 10 (.ifCond .eq 13) 13 (13) 23 := by decide +kernel
theorem q255_13 : qD 255 13 (.iload_n 2) 1 14 ∧ ((2 : Fin 4) : Nat) = 2 := by decide +kernel
theorem q255_14 : qD 255 14 (.i2l) 1 15 := by decide +kernel
theorem q255_15 : qD 255 15 (.lconst 0) 1 16 ∧ Int64.ofNat ((0 : Fin 2) : Nat) = 0 := by decide +kernel
theorem q255_16 : qD 255 16 (.lconst 1) 1 17 ∧ Int64.ofNat ((1 : Fin 2) : Nat) = 1 := by decide +kernel
theorem q255_17 : qD 255 17 (.invokestatic 211) 3 20 ∧ qI 255 211 170 1435 := by decide +kernel
theorem q255_20 : qJ 255 20 (.ifCond .ne 5) 23 (5) 25 := by decide +kernel
theorem q255_23 : qD 255 23 (.iconst (-1)) 1 24 ∧ Int32.ofInt (-1) = (-1 : Int32) := by decide +kernel
theorem q255_24 : qD 255 24 (.ireturn) 1 25 ∧ mR 255 = some .int := by decide +kernel
theorem q255_25 : qD 255 25 (.aload_n 0) 1 26 ∧ ((0 : Fin 4) : Nat) = 0 := by decide +kernel
theorem q255_26 : qD 255 26 (.aload_n 0) 1 27 ∧ ((0 : Fin 4) : Nat) = 0 := by decide +kernel
theorem q255_27 : qG 255 27 61 30 11 32 1297 2 := by decide +kernel
theorem q255_30 : qD 255 30 (.aload_n 0) 1 31 ∧ ((0 : Fin 4) : Nat) = 0 := by decide +kernel
theorem q255_31 : qG 255 31 37 34 11 18 1283 2 := by decide +kernel
theorem q255_34 : qD 255 34 (.iconst 0) 1 35 ∧ Int32.ofInt (0) = (0 : Int32) := by decide +kernel
theorem q255_35 : qD 255 35 (.iaload) 1 36 := by decide +kernel
theorem q255_36 : qD 255 36 (.iload_n 1) 1 37 ∧ ((1 : Fin 4) : Nat) = 1 := by decide +kernel
theorem q255_37 : qD 255 37 (.invokevirtual 314) 3 40 ∧ qI 255 314 215 1671 := by decide +kernel
theorem q255_40 : qD 255 40 (.iload_n 2) 1 41 ∧ ((2 : Fin 4) : Nat) = 2 := by decide +kernel
theorem q255_41 : qJ 255 41 (.ifCond .ne 7) 44 (7) 48 := by decide +kernel
theorem q255_44 : qD 255 44 (.iconst (-1)) 1 45 ∧ Int32.ofInt (-1) = (-1 : Int32) := by decide +kernel
theorem q255_45 : qJ 255 45 (.goto 4) 48 (4) 49 := by decide +kernel
theorem q255_48 : qD 255 48 (.iconst 1) 1 49 ∧ Int32.ofInt (1) = (1 : Int32) := by decide +kernel
theorem q255_49 : qD 255 49 (.istore_n 3) 1 50 ∧ ((3 : Fin 4) : Nat) = 3 ∧ 3 < mL 255 := by decide +kernel
theorem q255_50 : qD 255 50 (.aload_n 0) 1 51 ∧ ((0 : Fin 4) : Nat) = 0 := by decide +kernel
theorem q255_51 : qG 255 51 37 54 11 18 1283 2 := by decide +kernel
theorem q255_54 : qD 255 54 (.iconst 0) 1 55 ∧ Int32.ofInt (0) = (0 : Int32) := by decide +kernel
theorem q255_55 : qD 255 55 (.iaload) 1 56 := by decide +kernel
theorem q255_56 : qD 255 56 (.istore 4) 2 58 ∧ 4 < mL 255 := by decide +kernel
theorem q255_58 : qD 255 58 (.iload 4) 2 60 := by decide +kernel
theorem q255_60 : qD 255 60 (.iload_n 3) 1 61 ∧ ((3 : Fin 4) : Nat) = 3 := by decide +kernel
theorem q255_61 : qD 255 61 (.iadd) 1 62 := by decide +kernel
theorem q255_62 : qJ 255 62 (.ifCond .lt 38) 65 (38) 100 := by decide +kernel
theorem q255_65 : qD 255 65 (.iload 4) 2 67 := by decide +kernel
theorem q255_67 : qD 255 67 (.iload_n 3) 1 68 ∧ ((3 : Fin 4) : Nat) = 3 := by decide +kernel
theorem q255_68 : qD 255 68 (.iadd) 1 69 := by decide +kernel
theorem q255_69 : qD 255 69 (.aload_n 0) 1 70 ∧ ((0 : Fin 4) : Nat) = 0 := by decide +kernel
theorem q255_70 : qG 255 70 285 73 11 26 1291 0 := by decide +kernel
theorem q255_73 : qJ 255 73 (.if_icmp .ge 27) 76 (27) 100 := by decide +kernel
theorem q255_76 : qD 255 76 (.aload_n 0) 1 77 ∧ ((0 : Fin 4) : Nat) = 0 := by decide +kernel
theorem q255_77 : qG 255 77 71 80 11 36 1301 2 := by decide +kernel
theorem q255_80 : qD 255 80 (.iload 4) 2 82 := by decide +kernel
theorem q255_82 : qD 255 82 (.iload_n 3) 1 83 ∧ ((3 : Fin 4) : Nat) = 3 := by decide +kernel
theorem q255_83 : qD 255 83 (.iadd) 1 84 := by decide +kernel
theorem q255_84 : qD 255 84 (.iaload) 1 85 := by decide +kernel
theorem q255_85 : qJ 255 85 (.ifCond .ne 6) 88 (6) 91 := by decide +kernel
theorem q255_88 : qD 255 88 (.iload 4) 2 90 := by decide +kernel
theorem q255_90 : qD 255 90 (.ireturn) 1 91 ∧ mR 255 = some .int := by decide +kernel
theorem q255_91 : qD 255 91 (.iload 4) 2 93 := by decide +kernel
theorem q255_93 : qD 255 93 (.iload_n 3) 1 94 ∧ ((3 : Fin 4) : Nat) = 3 := by decide +kernel
theorem q255_94 : qD 255 94 (.iadd) 1 95 := by decide +kernel
theorem q255_95 : qD 255 95 (.istore 4) 2 97 ∧ 4 < mL 255 := by decide +kernel
theorem q255_97 : qJ 255 97 (.goto (-39)) 100 (-39) 58 := by decide +kernel
theorem q255_100 : qD 255 100 (.iconst (-1)) 1 101 ∧ Int32.ofInt (-1) = (-1 : Int32) := by decide +kernel
theorem q255_101 : qD 255 101 (.ireturn) 1 102 ∧ mR 255 = some .int := by decide +kernel
theorem q256_0 : qD 256 0 (.aload_n 0) 1 1 ∧ ((0 : Fin 4) : Nat) = 0 := by decide +kernel
theorem q256_1 : qD 256 1 (.aload_n 1) 1 2 ∧ ((1 : Fin 4) : Nat) = 1 := by decide +kernel
theorem q256_2 : qD 256 2 (.invokevirtual 318) 3 5 ∧ qI 256 318 213 1659 := by decide +kernel
theorem q256_5 : qD 256 5 (.istore_n 3) 1 6 ∧ ((3 : Fin 4) : Nat) = 3 ∧ 3 < mL 256 := by decide +kernel
theorem q256_6 : qD 256 6 (.aload_n 1) 1 7 ∧ ((1 : Fin 4) : Nat) = 1 := by decide +kernel
theorem q256_7 : qD 256 7 (.iconst 4) 1 8 ∧ Int32.ofInt (4) = (4 : Int32) := by decide +kernel
theorem q256_8 : qD 256 8 (.iload_n 3) 1 9 ∧ ((3 : Fin 4) : Nat) = 3 := by decide +kernel
theorem q256_9 : qD 256 9 (.imul) 1 10 := by decide +kernel
theorem q256_10 : qD 256 10 (.iconst 1) 1 11 ∧ Int32.ofInt (1) = (1 : Int32) := by decide +kernel
theorem q256_11 : qD 256 11 (.iadd) 1 12 := by decide +kernel
theorem q256_12 : qD 256 12 (.iaload) 1 13 := by decide +kernel
theorem q256_13 : qD 256 13 (.istore 4) 2 15 ∧ 4 < mL 256 := by decide +kernel
theorem q256_15 : qD 256 15 (.iconst 0) 1 16 ∧ Int32.ofInt (0) = (0 : Int32) := by decide +kernel
theorem q256_16 : qD 256 16 (.istore 5) 2 18 ∧ 5 < mL 256 := by decide +kernel
theorem q256_18 : qD 256 18 (.iload 5) 2 20 := by decide +kernel
theorem q256_20 : qD 256 20 (.aload_n 0) 1 21 ∧ ((0 : Fin 4) : Nat) = 0 := by decide +kernel
theorem q256_21 : qG 256 21 288 24 11 27 1292 0 := by decide +kernel
theorem q256_24 : qJ 256 24 (.if_icmp .ge 32) 27 (32) 56 := by decide +kernel
theorem q256_27 : qD 256 27 (.aload_n 0) 1 28 ∧ ((0 : Fin 4) : Nat) = 0 := by decide +kernel
theorem q256_28 : qD 256 28 (.aload_n 1) 1 29 ∧ ((1 : Fin 4) : Nat) = 1 := by decide +kernel
theorem q256_29 : qD 256 29 (.iload 5) 2 31 := by decide +kernel
theorem q256_31 : qD 256 31 (.invokevirtual 326) 3 34 ∧ qI 256 326 219 1663 := by decide +kernel
theorem q256_34 : qJ 256 34 (.ifCond .ne 6) 37 (6) 40 := by decide +kernel
theorem q256_37 : qJ 256 37 (.goto 13) 40 (13) 50 := by decide +kernel
theorem q256_40 : qD 256 40 (.aload_n 0) 1 41 ∧ ((0 : Fin 4) : Nat) = 0 := by decide +kernel
theorem q256_41 : qD 256 41 (.aload_n 1) 1 42 ∧ ((1 : Fin 4) : Nat) = 1 := by decide +kernel
theorem q256_42 : qD 256 42 (.iload 5) 2 44 := by decide +kernel
theorem q256_44 : qD 256 44 (.iload_n 2) 1 45 ∧ ((2 : Fin 4) : Nat) = 2 := by decide +kernel
theorem q256_45 : qD 256 45 (.invokevirtual 333) 3 48 ∧ qI 256 333 218 1667 := by decide +kernel
theorem q256_48 : qD 256 48 (.istore 6) 2 50 ∧ 6 < mL 256 := by decide +kernel
theorem q256_50 : qD 256 50 (.iinc 5 1) 3 53 ∧ 5 < mL 256 ∧ Int32.ofInt (1) = (1 : Int32) := by decide +kernel
theorem q256_53 : qJ 256 53 (.goto (-35)) 56 (-35) 18 := by decide +kernel
theorem q256_56 : qD 256 56 (.aload_n 1) 1 57 ∧ ((1 : Fin 4) : Nat) = 1 := by decide +kernel
theorem q256_57 : qD 256 57 (.iconst 4) 1 58 ∧ Int32.ofInt (4) = (4 : Int32) := by decide +kernel
theorem q256_58 : qD 256 58 (.iload_n 3) 1 59 ∧ ((3 : Fin 4) : Nat) = 3 := by decide +kernel
theorem q256_59 : qD 256 59 (.imul) 1 60 := by decide +kernel
theorem q256_60 : qD 256 60 (.iconst 1) 1 61 ∧ Int32.ofInt (1) = (1 : Int32) := by decide +kernel
theorem q256_61 : qD 256 61 (.iadd) 1 62 := by decide +kernel
theorem q256_62 : qD 256 62 (.iaload) 1 63 := by decide +kernel
theorem q256_63 : qD 256 63 (.iload 4) 2 65 := by decide +kernel
theorem q256_65 : qD 256 65 (.isub) 1 66 := by decide +kernel
theorem q256_66 : qD 256 66 (.ireturn) 1 67 ∧ mR 256 = some .int := by decide +kernel
theorem q257_0 : qD 257 0 (.aload_n 0) 1 1 ∧ ((0 : Fin 4) : Nat) = 0 := by decide +kernel
theorem q257_1 : qG 257 1 61 4 11 32 1297 2 := by decide +kernel
theorem q257_4 : qD 257 4 (.aload_n 0) 1 5 ∧ ((0 : Fin 4) : Nat) = 0 := by decide +kernel
theorem q257_5 : qG 257 5 64 8 11 33 1298 2 := by decide +kernel
theorem q257_8 : qD 257 8 (.invokestatic 411) 3 11 ∧ qI 257 411 208 1765 := by decide +kernel
theorem q257_11 : qD 257 11 (.aload_n 0) 1 12 ∧ ((0 : Fin 4) : Nat) = 0 := by decide +kernel
theorem q257_12 : qD 257 12 (.aload_n 0) 1 13 ∧ ((0 : Fin 4) : Nat) = 0 := by decide +kernel
theorem q257_13 : qG 257 13 64 16 11 33 1298 2 := by decide +kernel
theorem q257_16 : qD 257 16 (.invokevirtual 318) 3 19 ∧ qI 257 318 213 1659 := by decide +kernel
theorem q257_19 : qD 257 19 (.istore_n 2) 1 20 ∧ ((2 : Fin 4) : Nat) = 2 ∧ 2 < mL 257 := by decide +kernel
theorem q257_20 : qD 257 20 (.iload_n 1) 1 21 ∧ ((1 : Fin 4) : Nat) = 1 := by decide +kernel
theorem q257_21 : qD 257 21 (.iload_n 2) 1 22 ∧ ((2 : Fin 4) : Nat) = 2 := by decide +kernel
theorem q257_22 : qJ 257 22 (.if_icmp .eq 12) 25 (12) 34 := by decide +kernel
theorem q257_25 : qD 257 25 (.aload_n 0) 1 26 ∧ ((0 : Fin 4) : Nat) = 0 := by decide +kernel
theorem q257_26 : qG 257 26 64 29 11 33 1298 2 := by decide +kernel
theorem q257_29 : qD 257 29 (.iload_n 1) 1 30 ∧ ((1 : Fin 4) : Nat) = 1 := by decide +kernel
theorem q257_30 : qD 257 30 (.iload_n 2) 1 31 ∧ ((2 : Fin 4) : Nat) = 2 := by decide +kernel
theorem q257_31 : qD 257 31 (.invokestatic 372) 3 34 ∧ qI 257 372 234 1694 := by decide +kernel
theorem q257_34 : qD 257 34 (.aload_n 0) 1 35 ∧ ((0 : Fin 4) : Nat) = 0 := by decide +kernel
theorem q257_35 : qD 257 35 (.aload_n 0) 1 36 ∧ ((0 : Fin 4) : Nat) = 0 := by decide +kernel
theorem q257_36 : qG 257 36 64 39 11 33 1298 2 := by decide +kernel
theorem q257_39 : qD 257 39 (.aload_n 0) 1 40 ∧ ((0 : Fin 4) : Nat) = 0 := by decide +kernel
theorem q257_40 : qG 257 40 37 43 11 18 1283 2 := by decide +kernel
theorem q257_43 : qD 257 43 (.iconst 3) 1 44 ∧ Int32.ofInt (3) = (3 : Int32) := by decide +kernel
theorem q257_44 : qD 257 44 (.iaload) 1 45 := by decide +kernel
theorem q257_45 : qD 257 45 (.invokevirtual 422) 3 48 ∧ qI 257 422 256 1796 := by decide +kernel
theorem q257_48 : qD 257 48 (.ireturn) 1 49 ∧ mR 257 = some .int := by decide +kernel
theorem q258_0 : qD 258 0 (.aload_n 0) 1 1 ∧ ((0 : Fin 4) : Nat) = 0 := by decide +kernel
theorem q258_1 : qD 258 1 (.iconst 0) 1 2 ∧ Int32.ofInt (0) = (0 : Int32) := by decide +kernel
theorem q258_2 : qP 258 2 90 5 11 0 1265 0 := by decide +kernel
theorem q258_5 : qD 258 5 (.aload_n 0) 1 6 ∧ ((0 : Fin 4) : Nat) = 0 := by decide +kernel
theorem q258_6 : qD 258 6 (.iload_n 1) 1 7 ∧ ((1 : Fin 4) : Nat) = 1 := by decide +kernel
theorem q258_7 : qD 258 7 (.invokevirtual 344) 3 10 ∧ qI 258 344 209 1601 := by decide +kernel
theorem q258_10 : qJ 258 10 (.ifCond .eq 11) 13 (11) 21 := by decide +kernel
theorem q258_13 : qD 258 13 (.aload_n 0) 1 14 ∧ ((0 : Fin 4) : Nat) = 0 := by decide +kernel
theorem q258_14 : qD 258 14 (.iload_n 1) 1 15 ∧ ((1 : Fin 4) : Nat) = 1 := by decide +kernel
theorem q258_15 : qD 258 15 (.invokevirtual 425) 3 18 ∧ qI 258 425 257 1792 := by decide +kernel
theorem q258_18 : qJ 258 18 (.goto 4) 21 (4) 22 := by decide +kernel
theorem q258_21 : qD 258 21 (.iconst (-1)) 1 22 ∧ Int32.ofInt (-1) = (-1 : Int32) := by decide +kernel
theorem q258_22 : qD 258 22 (.ireturn) 1 23 ∧ mR 258 = some .int := by decide +kernel
theorem q259_0 : qD 259 0 (.aload_n 0) 1 1 ∧ ((0 : Fin 4) : Nat) = 0 := by decide +kernel
theorem q259_1 : qD 259 1 (.iconst 0) 1 2 ∧ Int32.ofInt (0) = (0 : Int32) := by decide +kernel
theorem q259_2 : qP 259 2 90 5 11 0 1265 0 := by decide +kernel
theorem q259_5 : qD 259 5 (.aload_n 0) 1 6 ∧ ((0 : Fin 4) : Nat) = 0 := by decide +kernel
theorem q259_6 : qG 259 6 285 9 11 26 1291 0 := by decide +kernel
theorem q259_9 : qJ 259 9 (.ifCond .ne 5) 12 (5) 14 := by decide +kernel
theorem q259_12 : qD 259 12 (.iconst (-1)) 1 13 ∧ Int32.ofInt (-1) = (-1 : Int32) := by decide +kernel
theorem q259_13 : qD 259 13 (.ireturn) 1 14 ∧ mR 259 = some .int := by decide +kernel
theorem q259_14 : qD 259 14 (.iconst 0) 1 15 ∧ Int32.ofInt (0) = (0 : Int32) := by decide +kernel
theorem q259_15 : qD 259 15 (.istore_n 1) 1 16 ∧ ((1 : Fin 4) : Nat) = 1 ∧ 1 < mL 259 := by decide +kernel
theorem q259_16 : qD 259 16 (.aload_n 0) 1 17 ∧ ((0 : Fin 4) : Nat) = 0 := by decide +kernel
theorem q259_17 : qD 259 17 (.iconst 0) 1 18 ∧ Int32.ofInt (0) = (0 : Int32) := by decide +kernel
theorem q259_18 : qD 259 18 (.invokevirtual 425) 3 21 ∧ qI 259 425 257 1792 := by decide +kernel
theorem q259_21 : qD 259 21 (.istore_n 2) 1 22 ∧ ((2 : Fin 4) : Nat) = 2 ∧ 2 < mL 259 := by decide +kernel
theorem q259_22 : qD 259 22 (.iconst 1) 1 23 ∧ Int32.ofInt (1) = (1 : Int32) := by decide +kernel
theorem q259_23 : qD 259 23 (.istore_n 3) 1 24 ∧ ((3 : Fin 4) : Nat) = 3 ∧ 3 < mL 259 := by decide +kernel
theorem q259_24 : qD 259 24 (.iload_n 3) 1 25 ∧ ((3 : Fin 4) : Nat) = 3 := by decide +kernel
theorem q259_25 : qD 259 25 (.aload_n 0) 1 26 ∧ ((0 : Fin 4) : Nat) = 0 := by decide +kernel
theorem q259_26 : qG 259 26 285 29 11 26 1291 0 := by decide +kernel
theorem q259_29 : qJ 259 29 (.if_icmp .ge 30) 32 (30) 59 := by decide +kernel
theorem q259_32 : qD 259 32 (.aload_n 0) 1 33 ∧ ((0 : Fin 4) : Nat) = 0 := by decide +kernel
theorem q259_33 : qD 259 33 (.iload_n 3) 1 34 ∧ ((3 : Fin 4) : Nat) = 3 := by decide +kernel
theorem q259_34 : qD 259 34 (.invokevirtual 425) 3 37 ∧ qI 259 425 257 1792 := by decide +kernel
theorem q259_37 : qD 259 37 (.istore 4) 2 39 ∧ 4 < mL 259 := by decide +kernel
theorem q259_39 : qD 259 39 (.iload 4) 2 41 := by decide +kernel
theorem q259_41 : qD 259 41 (.iload_n 2) 1 42 ∧ ((2 : Fin 4) : Nat) = 2 := by decide +kernel
theorem q259_42 : qJ 259 42 (.if_icmp .gt 6) 45 (6) 48 := by decide +kernel
theorem q259_45 : qJ 259 45 (.goto 8) 48 (8) 53 := by decide +kernel
theorem q259_48 : qD 259 48 (.iload_n 3) 1 49 ∧ ((3 : Fin 4) : Nat) = 3 := by decide +kernel
theorem q259_49 : qD 259 49 (.istore_n 1) 1 50 ∧ ((1 : Fin 4) : Nat) = 1 ∧ 1 < mL 259 := by decide +kernel
theorem q259_50 : qD 259 50 (.iload 4) 2 52 := by decide +kernel
theorem q259_52 : qD 259 52 (.istore_n 2) 1 53 ∧ ((2 : Fin 4) : Nat) = 2 ∧ 2 < mL 259 := by decide +kernel
theorem q259_53 : qD 259 53 (.iinc 3 1) 3 56 ∧ 3 < mL 259 ∧ Int32.ofInt (1) = (1 : Int32) := by decide +kernel
theorem q259_56 : qJ 259 56 (.goto (-32)) 59 (-32) 24 := by decide +kernel
theorem q259_59 : qD 259 59 (.iload_n 1) 1 60 ∧ ((1 : Fin 4) : Nat) = 1 := by decide +kernel
theorem q259_60 : qD 259 60 (.ireturn) 1 61 ∧ mR 259 = some .int := by decide +kernel
theorem q260_0 : qD 260 0 (.iload_n 1) 1 1 ∧ ((1 : Fin 4) : Nat) = 1 := by decide +kernel
theorem q260_1 : qD 260 1 (.aload_n 0) 1 2 ∧ ((0 : Fin 4) : Nat) = 0 := by decide +kernel
theorem q260_2 : qG 260 2 288 5 11 27 1292 0 := by decide +kernel
theorem q260_5 : qJ 260 5 (.if_icmp .ne 32) 8 (32) 37 := by decide +kernel
theorem q260_8 : qD 260 8 (.aload_n 0) 1 9 ∧ ((0 : Fin 4) : Nat) = 0 := by decide +kernel
theorem q260_9 : qG 260 9 428 12 11 41 1306 0 := by decide +kernel
theorem q260_12 : qD 260 12 (.iconst (-1)) 1 13 ∧ Int32.ofInt (-1) = (-1 : Int32) := by decide +kernel
theorem q260_13 : qJ 260 13 (.if_icmp .eq 12) 16 (12) 25 := by decide +kernel
theorem q260_16 : qD 260 16 (.iload_n 3) 1 17 ∧ ((3 : Fin 4) : Nat) = 3 := by decide +kernel
theorem q260_17 : qD 260 17 (.aload_n 0) 1 18 ∧ ((0 : Fin 4) : Nat) = 0 := by decide +kernel
theorem q260_18 : qG 260 18 428 21 11 41 1306 0 := by decide +kernel
theorem q260_21 : qJ 260 21 (.if_icmp .lt 4) 24 (4) 25 := by decide +kernel
theorem q260_24 : qD 260 24 (.return_) 1 25 ∧ mR 260 = none := by decide +kernel
theorem q260_25 : qD 260 25 (.aload_n 0) 1 26 ∧ ((0 : Fin 4) : Nat) = 0 := by decide +kernel
theorem q260_26 : qD 260 26 (.iload_n 3) 1 27 ∧ ((3 : Fin 4) : Nat) = 3 := by decide +kernel
theorem q260_27 : qP 260 27 428 30 11 41 1306 0 := by decide +kernel
theorem q260_30 : qD 260 30 (.aload_n 0) 1 31 ∧ ((0 : Fin 4) : Nat) = 0 := by decide +kernel
theorem q260_31 : qD 260 31 (.iload 4) 2 33 := by decide +kernel
theorem q260_33 : qP 260 33 431 36 11 40 1305 0 := by decide +kernel
theorem q260_36 : qD 260 36 (.return_) 1 37 ∧ mR 260 = none := by decide +kernel
theorem q260_37 : qD 260 37 (.iconst 1) 1 38 ∧ Int32.ofInt (1) = (1 : Int32) := by decide +kernel
theorem q260_38 : qD 260 38 (.istore 5) 2 40 ∧ 5 < mL 260 := by decide +kernel
theorem q260_40 : qD 260 40 (.iload 5) 2 42 := by decide +kernel
theorem q260_42 : qD 260 42 (.bipush 6) 2 44 ∧ (Int8.ofInt (6)).toInt32 = (6 : Int32) := by decide +kernel
theorem q260_44 : qJ 260 44 (.if_icmp .ge 55) 47 (55) 99 := by decide +kernel
theorem q260_47 : qD 260 47 (.iload_n 2) 1 48 ∧ ((2 : Fin 4) : Nat) = 2 := by decide +kernel
theorem q260_48 : qD 260 48 (.bipush 32) 2 50 ∧ (Int8.ofInt (32)).toInt32 = (32 : Int32) := by decide +kernel
theorem q260_50 : qD 260 50 (.iload 5) 2 52 := by decide +kernel
theorem q260_52 : qD 260 52 (.ishr) 1 53 := by decide +kernel
theorem q260_53 : qJ 260 53 (.if_icmp .lt 40) 56 (40) 93 := by decide +kernel
theorem q260_56 : qD 260 56 (.aload_n 0) 1 57 ∧ ((0 : Fin 4) : Nat) = 0 := by decide +kernel
theorem q260_57 : qD 260 57 (.iload_n 1) 1 58 ∧ ((1 : Fin 4) : Nat) = 1 := by decide +kernel
theorem q260_58 : qD 260 58 (.iconst 1) 1 59 ∧ Int32.ofInt (1) = (1 : Int32) := by decide +kernel
theorem q260_59 : qD 260 59 (.iadd) 1 60 := by decide +kernel
theorem q260_60 : qD 260 60 (.iload_n 2) 1 61 ∧ ((2 : Fin 4) : Nat) = 2 := by decide +kernel
theorem q260_61 : qD 260 61 (.bipush 32) 2 63 ∧ (Int8.ofInt (32)).toInt32 = (32 : Int32) := by decide +kernel
theorem q260_63 : qD 260 63 (.iload 5) 2 65 := by decide +kernel
theorem q260_65 : qD 260 65 (.ishr) 1 66 := by decide +kernel
theorem q260_66 : qD 260 66 (.isub) 1 67 := by decide +kernel
theorem q260_67 : qD 260 67 (.iload_n 3) 1 68 ∧ ((3 : Fin 4) : Nat) = 3 := by decide +kernel
theorem q260_68 : qD 260 68 (.iload 5) 2 70 := by decide +kernel
theorem q260_70 : qD 260 70 (.aload_n 0) 1 71 ∧ ((0 : Fin 4) : Nat) = 0 := by decide +kernel
theorem q260_71 : qG 260 71 49 74 11 22 1287 2 := by decide +kernel
theorem q260_74 : qD 260 74 (.iconst 2) 1 75 ∧ Int32.ofInt (2) = (2 : Int32) := by decide +kernel
theorem q260_75 : qD 260 75 (.iload_n 1) 1 76 ∧ ((1 : Fin 4) : Nat) = 1 := by decide +kernel
theorem q260_76 : qD 260 76 (.imul) 1 77 := by decide +kernel
theorem q260_77 : qD 260 77 (.iconst 1) 1 78 ∧ Int32.ofInt (1) = (1 : Int32) := by decide +kernel
theorem q260_78 : qD 260 78 (.iadd) 1 79 := by decide +kernel
theorem q260_79 : qD 260 79 (.iaload) 1 80 := by decide +kernel
theorem q260_80 : qD 260 80 (.imul) 1 81 := by decide +kernel
theorem q260_81 : qD 260 81 (.iadd) 1 82 := by decide +kernel
theorem q260_82 : qD 260 82 (.bipush 10) 2 84 ∧ (Int8.ofInt (10)).toInt32 = (10 : Int32) := by decide +kernel
theorem q260_84 : qD 260 84 (.iload 4) 2 86 := by decide +kernel
theorem q260_86 : qD 260 86 (.imul) 1 87 := by decide +kernel
theorem q260_87 : qD 260 87 (.iload 5) 2 89 := by decide +kernel
theorem q260_89 : qD 260 89 (.iadd) 1 90 := by decide +kernel
theorem q260_90 : qD 260 90 (.invokevirtual 434) 3 93 ∧ qI 260 434 260 1808 := by decide +kernel
theorem q260_93 : qD 260 93 (.iinc 5 1) 3 96 ∧ 5 < mL 260 ∧ Int32.ofInt (1) = (1 : Int32) := by decide +kernel
theorem q260_96 : qJ 260 96 (.goto (-56)) 99 (-56) 40 := by decide +kernel
theorem q260_99 : qD 260 99 (.return_) 1 100 ∧ mR 260 = none := by decide +kernel
theorem q261_0 : qD 261 0 (.aload_n 0) 1 1 ∧ ((0 : Fin 4) : Nat) = 0 := by decide +kernel
theorem q261_1 : qD 261 1 (.iconst 0) 1 2 ∧ Int32.ofInt (0) = (0 : Int32) := by decide +kernel
theorem q261_2 : qP 261 2 90 5 11 0 1265 0 := by decide +kernel
theorem q261_5 : qD 261 5 (.aload_n 0) 1 6 ∧ ((0 : Fin 4) : Nat) = 0 := by decide +kernel
theorem q261_6 : qG 261 6 285 9 11 26 1291 0 := by decide +kernel
theorem q261_9 : qJ 261 9 (.ifCond .eq 13) 12 (13) 22 := by decide +kernel
theorem q261_12 : qD 261 12 (.iload_n 1) 1 13 ∧ ((1 : Fin 4) : Nat) = 1 := by decide +kernel
theorem q261_13 : qD 261 13 (.i2l) 1 14 := by decide +kernel
theorem q261_14 : qD 261 14 (.lconst 0) 1 15 ∧ Int64.ofNat ((0 : Fin 2) : Nat) = 0 := by decide +kernel
theorem q261_15 : qD 261 15 (.lconst 1) 1 16 ∧ Int64.ofNat ((1 : Fin 2) : Nat) = 1 := by decide +kernel
theorem q261_16 : qD 261 16 (.invokestatic 211) 3 19 ∧ qI 261 211 170 1435 := by decide +kernel
theorem q261_19 : qJ 261 19 (.ifCond .ne 5) 22 (5) 24 := by decide +kernel
theorem q261_22 : qD 261 22 (.iconst (-1)) 1 23 ∧ Int32.ofInt (-1) = (-1 : Int32) := by decide +kernel
theorem q261_23 : qD 261 23 (.ireturn) 1 24 ∧ mR 261 = some .int := by decide +kernel
theorem q261_24 : qD 261 24 (.aload_n 0) 1 25 ∧ ((0 : Fin 4) : Nat) = 0 := by decide +kernel
theorem q261_25 : qD 261 25 (.iconst (-1)) 1 26 ∧ Int32.ofInt (-1) = (-1 : Int32) := by decide +kernel
theorem q261_26 : qP 261 26 428 29 11 41 1306 0 := by decide +kernel
theorem q261_29 : qD 261 29 (.aload_n 0) 1 30 ∧ ((0 : Fin 4) : Nat) = 0 := by decide +kernel
theorem q261_30 : qD 261 30 (.iconst 0) 1 31 ∧ Int32.ofInt (0) = (0 : Int32) := by decide +kernel
theorem q261_31 : qP 261 31 431 34 11 40 1305 0 := by decide +kernel
theorem q261_34 : qD 261 34 (.aload_n 0) 1 35 ∧ ((0 : Fin 4) : Nat) = 0 := by decide +kernel
theorem q261_35 : qD 261 35 (.iconst 0) 1 36 ∧ Int32.ofInt (0) = (0 : Int32) := by decide +kernel
theorem q261_36 : qD 261 36 (.bipush 32) 2 38 ∧ (Int8.ofInt (32)).toInt32 = (32 : Int32) := by decide +kernel
theorem q261_38 : qD 261 38 (.iconst 0) 1 39 ∧ Int32.ofInt (0) = (0 : Int32) := by decide +kernel
theorem q261_39 : qD 261 39 (.iconst 0) 1 40 ∧ Int32.ofInt (0) = (0 : Int32) := by decide +kernel
theorem q261_40 : qD 261 40 (.invokevirtual 434) 3 43 ∧ qI 261 434 260 1808 := by decide +kernel
theorem q261_43 : qD 261 43 (.iload_n 1) 1 44 ∧ ((1 : Fin 4) : Nat) = 1 := by decide +kernel
theorem q261_44 : qJ 261 44 (.ifCond .ne 10) 47 (10) 54 := by decide +kernel
theorem q261_47 : qD 261 47 (.aload_n 0) 1 48 ∧ ((0 : Fin 4) : Nat) = 0 := by decide +kernel
theorem q261_48 : qG 261 48 431 51 11 40 1305 0 := by decide +kernel
theorem q261_51 : qJ 261 51 (.goto 7) 54 (7) 58 := by decide +kernel
theorem q261_54 : qD 261 54 (.aload_n 0) 1 55 ∧ ((0 : Fin 4) : Nat) = 0 := by decide +kernel
theorem q261_55 : qG 261 55 428 58 11 41 1306 0 := by decide +kernel
theorem q261_58 : qD 261 58 (.ireturn) 1 59 ∧ mR 261 = some .int := by decide +kernel
theorem q262_0 : qD 262 0 (.aload_n 0) 1 1 ∧ ((0 : Fin 4) : Nat) = 0 := by decide +kernel
theorem q262_1 : qD 262 1 (.iconst 0) 1 2 ∧ Int32.ofInt (0) = (0 : Int32) := by decide +kernel
theorem q262_2 : qP 262 2 90 5 11 0 1265 0 := by decide +kernel
theorem q262_5 : qD 262 5 (.aload_n 0) 1 6 ∧ ((0 : Fin 4) : Nat) = 0 := by decide +kernel
theorem q262_6 : qD 262 6 (.iload_n 1) 1 7 ∧ ((1 : Fin 4) : Nat) = 1 := by decide +kernel
theorem q262_7 : qD 262 7 (.invokevirtual 344) 3 10 ∧ qI 262 344 209 1601 := by decide +kernel
theorem q262_10 : qJ 262 10 (.ifCond .eq 20) 13 (20) 30 := by decide +kernel
theorem q262_13 : qD 262 13 (.aload_n 0) 1 14 ∧ ((0 : Fin 4) : Nat) = 0 := by decide +kernel
theorem q262_14 : qD 262 14 (.iload_n 2) 1 15 ∧ ((2 : Fin 4) : Nat) = 2 := by decide +kernel
theorem q262_15 : qD 262 15 (.invokevirtual 349) 3 18 ∧ qI 262 349 210 1618 := by decide +kernel
theorem q262_18 : qJ 262 18 (.ifCond .eq 12) 21 (12) 30 := by decide +kernel
theorem q262_21 : qD 262 21 (.aload_n 0) 1 22 ∧ ((0 : Fin 4) : Nat) = 0 := by decide +kernel
theorem q262_22 : qG 262 22 294 25 11 45 1310 0 := by decide +kernel
theorem q262_25 : qD 262 25 (.bipush 16) 2 27 ∧ (Int8.ofInt (16)).toInt32 = (16 : Int32) := by decide +kernel
theorem q262_27 : qJ 262 27 (.if_icmp .ne 5) 30 (5) 32 := by decide +kernel
theorem q262_30 : qD 262 30 (.iconst (-1)) 1 31 ∧ Int32.ofInt (-1) = (-1 : Int32) := by decide +kernel
theorem q262_31 : qD 262 31 (.ireturn) 1 32 ∧ mR 262 = some .int := by decide +kernel
theorem q262_32 : qD 262 32 (.aload_n 0) 1 33 ∧ ((0 : Fin 4) : Nat) = 0 := by decide +kernel
theorem q262_33 : qG 262 33 77 36 11 42 1307 2 := by decide +kernel
theorem q262_36 : qD 262 36 (.aload_n 0) 1 37 ∧ ((0 : Fin 4) : Nat) = 0 := by decide +kernel
theorem q262_37 : qG 262 37 294 40 11 45 1310 0 := by decide +kernel
theorem q262_40 : qD 262 40 (.iload_n 1) 1 41 ∧ ((1 : Fin 4) : Nat) = 1 := by decide +kernel
theorem q262_41 : qD 262 41 (.iastore) 1 42 := by decide +kernel
theorem q262_42 : qD 262 42 (.aload_n 0) 1 43 ∧ ((0 : Fin 4) : Nat) = 0 := by decide +kernel
theorem q262_43 : qG 262 43 80 46 11 43 1308 2 := by decide +kernel
theorem q262_46 : qD 262 46 (.aload_n 0) 1 47 ∧ ((0 : Fin 4) : Nat) = 0 := by decide +kernel
theorem q262_47 : qG 262 47 294 50 11 45 1310 0 := by decide +kernel
theorem q262_50 : qD 262 50 (.iload_n 2) 1 51 ∧ ((2 : Fin 4) : Nat) = 2 := by decide +kernel
theorem q262_51 : qD 262 51 (.iastore) 1 52 := by decide +kernel
theorem q262_52 : qD 262 52 (.aload_n 0) 1 53 ∧ ((0 : Fin 4) : Nat) = 0 := by decide +kernel
theorem q262_53 : qG 262 53 83 56 11 44 1309 2 := by decide +kernel
theorem q262_56 : qD 262 56 (.aload_n 0) 1 57 ∧ ((0 : Fin 4) : Nat) = 0 := by decide +kernel
theorem q262_57 : qG 262 57 294 60 11 45 1310 0 := by decide +kernel
theorem q262_60 : qD 262 60 (.iload_n 3) 1 61 ∧ ((3 : Fin 4) : Nat) = 3 := by decide +kernel
theorem q262_61 : qD 262 61 (.bastore) 1 62 := by decide +kernel
theorem q262_62 : qD 262 62 (.aload_n 0) 1 63 ∧ ((0 : Fin 4) : Nat) = 0 := by decide +kernel
theorem q262_63 : qD 262 63 (.dup) 1 64 := by decide +kernel
theorem q262_64 : qG 262 64 294 67 11 45 1310 0 := by decide +kernel
theorem q262_67 : qD 262 67 (.iconst 1) 1 68 ∧ Int32.ofInt (1) = (1 : Int32) := by decide +kernel
theorem q262_68 : qD 262 68 (.iadd) 1 69 := by decide +kernel
theorem q262_69 : qP 262 69 294 72 11 45 1310 0 := by decide +kernel
theorem q262_72 : qD 262 72 (.aload_n 0) 1 73 ∧ ((0 : Fin 4) : Nat) = 0 := by decide +kernel
theorem q262_73 : qG 262 73 294 76 11 45 1310 0 := by decide +kernel
theorem q262_76 : qD 262 76 (.ireturn) 1 77 ∧ mR 262 = some .int := by decide +kernel
theorem q263_0 : qD 263 0 (.iconst 0) 1 1 ∧ Int32.ofInt (0) = (0 : Int32) := by decide +kernel
theorem q263_1 : qD 263 1 (.istore_n 2) 1 2 ∧ ((2 : Fin 4) : Nat) = 2 ∧ 2 < mL 263 := by decide +kernel
theorem q263_2 : qD 263 2 (.iconst 0) 1 3 ∧ Int32.ofInt (0) = (0 : Int32) := by decide +kernel
theorem q263_3 : qD 263 3 (.istore_n 3) 1 4 ∧ ((3 : Fin 4) : Nat) = 3 ∧ 3 < mL 263 := by decide +kernel
theorem q263_4 : qD 263 4 (.iload_n 3) 1 5 ∧ ((3 : Fin 4) : Nat) = 3 := by decide +kernel
theorem q263_5 : qD 263 5 (.aload_n 0) 1 6 ∧ ((0 : Fin 4) : Nat) = 0 := by decide +kernel
theorem q263_6 : qG 263 6 294 9 11 45 1310 0 := by decide +kernel
theorem q263_9 : qJ 263 9 (.if_icmp .ge 39) 12 (39) 48 := by decide +kernel
theorem q263_12 : qD 263 12 (.iload_n 1) 1 13 ∧ ((1 : Fin 4) : Nat) = 1 := by decide +kernel
theorem q263_13 : qD 263 13 (.aload_n 0) 1 14 ∧ ((0 : Fin 4) : Nat) = 0 := by decide +kernel
theorem q263_14 : qG 263 14 80 17 11 43 1308 2 := by decide +kernel
theorem q263_17 : qD 263 17 (.iload_n 3) 1 18 ∧ ((3 : Fin 4) : Nat) = 3 := by decide +kernel
theorem q263_18 : qD 263 18 (.iaload) 1 19 := by decide +kernel
theorem q263_19 : qD 263 19 (.invokestatic 223) 3 22 ∧ qI 263 223 171 1490 := by decide +kernel
theorem q263_22 : qD 263 22 (.aload_n 0) 1 23 ∧ ((0 : Fin 4) : Nat) = 0 := by decide +kernel
theorem q263_23 : qG 263 23 83 26 11 44 1309 2 := by decide +kernel
theorem q263_26 : qD 263 26 (.iload_n 3) 1 27 ∧ ((3 : Fin 4) : Nat) = 3 := by decide +kernel
theorem q263_27 : qD 263 27 (.baload) 1 28 := by decide +kernel
theorem q263_28 : qJ 263 28 (.if_icmp .eq 14) 31 (14) 42 := by decide +kernel
theorem q263_31 : qD 263 31 (.iload_n 2) 1 32 ∧ ((2 : Fin 4) : Nat) = 2 := by decide +kernel
theorem q263_32 : qD 263 32 (.iconst 1) 1 33 ∧ Int32.ofInt (1) = (1 : Int32) := by decide +kernel
theorem q263_33 : qD 263 33 (.aload_n 0) 1 34 ∧ ((0 : Fin 4) : Nat) = 0 := by decide +kernel
theorem q263_34 : qG 263 34 77 37 11 42 1307 2 := by decide +kernel
theorem q263_37 : qD 263 37 (.iload_n 3) 1 38 ∧ ((3 : Fin 4) : Nat) = 3 := by decide +kernel
theorem q263_38 : qD 263 38 (.iaload) 1 39 := by decide +kernel
theorem q263_39 : qD 263 39 (.ishl) 1 40 := by decide +kernel
theorem q263_40 : qD 263 40 (.ior) 1 41 := by decide +kernel
theorem q263_41 : qD 263 41 (.istore_n 2) 1 42 ∧ ((2 : Fin 4) : Nat) = 2 ∧ 2 < mL 263 := by decide +kernel
theorem q263_42 : qD 263 42 (.iinc 3 1) 3 45 ∧ 3 < mL 263 ∧ Int32.ofInt (1) = (1 : Int32) := by decide +kernel
theorem q263_45 : qJ 263 45 (.goto (-41)) 48 (-41) 4 := by decide +kernel
theorem q263_48 : qD 263 48 (.iload_n 2) 1 49 ∧ ((2 : Fin 4) : Nat) = 2 := by decide +kernel
theorem q263_49 : qD 263 49 (.ireturn) 1 50 ∧ mR 263 = some .int := by decide +kernel
theorem q264_0 : qD 264 0 (.iconst 1) 1 1 ∧ Int32.ofInt (1) = (1 : Int32) := by decide +kernel
theorem q264_1 : qD 264 1 (.aload_n 0) 1 2 ∧ ((0 : Fin 4) : Nat) = 0 := by decide +kernel
theorem q264_2 : qG 264 2 288 5 11 27 1292 0 := by decide +kernel
theorem q264_5 : qD 264 5 (.ishl) 1 6 := by decide +kernel
theorem q264_6 : qD 264 6 (.ireturn) 1 7 ∧ mR 264 = some .int := by decide +kernel
theorem q265_0 : qD 265 0 (.bipush 7) 2 2 ∧ (Int8.ofInt (7)).toInt32 = (7 : Int32) := by decide +kernel
theorem q265_2 : qD 265 2 (.istore_n 1) 1 3 ∧ ((1 : Fin 4) : Nat) = 1 ∧ 1 < mL 265 := by decide +kernel
theorem q265_3 : qD 265 3 (.iconst 0) 1 4 ∧ Int32.ofInt (0) = (0 : Int32) := by decide +kernel
theorem q265_4 : qD 265 4 (.istore_n 2) 1 5 ∧ ((2 : Fin 4) : Nat) = 2 ∧ 2 < mL 265 := by decide +kernel
theorem q265_5 : qD 265 5 (.iload_n 2) 1 6 ∧ ((2 : Fin 4) : Nat) = 2 := by decide +kernel
theorem q265_6 : qD 265 6 (.aload_n 0) 1 7 ∧ ((0 : Fin 4) : Nat) = 0 := by decide +kernel
theorem q265_7 : qD 265 7 (.invokevirtual 438) 3 10 ∧ qI 265 438 264 1824 := by decide +kernel
theorem q265_10 : qJ 265 10 (.if_icmp .ge 22) 13 (22) 32 := by decide +kernel
theorem q265_13 : qD 265 13 (.iload_n 1) 1 14 ∧ ((1 : Fin 4) : Nat) = 1 := by decide +kernel
theorem q265_14 : qD 265 14 (.aload_n 0) 1 15 ∧ ((0 : Fin 4) : Nat) = 0 := by decide +kernel
theorem q265_15 : qD 265 15 (.iload_n 2) 1 16 ∧ ((2 : Fin 4) : Nat) = 2 := by decide +kernel
theorem q265_16 : qD 265 16 (.invokevirtual 441) 3 19 ∧ qI 265 441 263 1828 := by decide +kernel
theorem q265_19 : qD 265 19 (.invokestatic 337) 3 22 ∧ qI 265 337 295 1685 := by decide +kernel
theorem q265_22 : qD 265 22 (.invokestatic 307) 3 25 ∧ inG 1679 (.methodLink (mN 265).cls 307 Lib.Math.min.name) := by decide +kernel
theorem q265_25 : qD 265 25 (.istore_n 1) 1 26 ∧ ((1 : Fin 4) : Nat) = 1 ∧ 1 < mL 265 := by decide +kernel
theorem q265_26 : qD 265 26 (.iinc 2 1) 3 29 ∧ 2 < mL 265 ∧ Int32.ofInt (1) = (1 : Int32) := by decide +kernel
theorem q265_29 : qJ 265 29 (.goto (-24)) 32 (-24) 5 := by decide +kernel
theorem q265_32 : qD 265 32 (.iload_n 1) 1 33 ∧ ((1 : Fin 4) : Nat) = 1 := by decide +kernel
theorem q265_33 : qD 265 33 (.ireturn) 1 34 ∧ mR 265 = some .int := by decide +kernel
theorem q266_0 : qD 266 0 (.aload_n 0) 1 1 ∧ ((0 : Fin 4) : Nat) = 0 := by decide +kernel
theorem q266_1 : qD 266 1 (.iconst 0) 1 2 ∧ Int32.ofInt (0) = (0 : Int32) := by decide +kernel
theorem q266_2 : qP 266 2 90 5 11 0 1265 0 := by decide +kernel
theorem q266_5 : qD 266 5 (.aload_n 0) 1 6 ∧ ((0 : Fin 4) : Nat) = 0 := by decide +kernel
theorem q266_6 : qG 266 6 285 9 11 26 1291 0 := by decide +kernel
theorem q266_9 : qJ 266 9 (.ifCond .ne 7) 12 (7) 16 := by decide +kernel
theorem q266_12 : qD 266 12 (.iconst (-1)) 1 13 ∧ Int32.ofInt (-1) = (-1 : Int32) := by decide +kernel
theorem q266_13 : qJ 266 13 (.goto 7) 16 (7) 20 := by decide +kernel
theorem q266_16 : qD 266 16 (.aload_n 0) 1 17 ∧ ((0 : Fin 4) : Nat) = 0 := by decide +kernel
theorem q266_17 : qD 266 17 (.invokevirtual 444) 3 20 ∧ qI 266 444 265 1820 := by decide +kernel
theorem q266_20 : qD 266 20 (.ireturn) 1 21 ∧ mR 266 = some .int := by decide +kernel
theorem q267_0 : qD 267 0 (.aload_n 0) 1 1 ∧ ((0 : Fin 4) : Nat) = 0 := by decide +kernel
theorem q267_1 : qG 267 1 285 4 11 26 1291 0 := by decide +kernel
theorem q267_4 : qJ 267 4 (.ifCond .le 19) 7 (19) 23 := by decide +kernel
theorem q267_7 : qD 267 7 (.iload_n 1) 1 8 ∧ ((1 : Fin 4) : Nat) = 1 := by decide +kernel
theorem q267_8 : qD 267 8 (.i2l) 1 9 := by decide +kernel
theorem q267_9 : qD 267 9 (.lconst 0) 1 10 ∧ Int64.ofNat ((0 : Fin 2) : Nat) = 0 := by decide +kernel
theorem q267_10 : qD 267 10 (.ldc2_w 447) 3 13 ∧ inG 1840 (.constantLong (mN 267).cls 447 (7)) := by decide +kernel
theorem q267_13 : qD 267 13 (.invokestatic 211) 3 16 ∧ qI 267 211 170 1435 := by decide +kernel
theorem q267_16 : qJ 267 16 (.ifCond .eq 7) 19 (7) 23 := by decide +kernel
theorem q267_19 : qD 267 19 (.iconst 1) 1 20 ∧ Int32.ofInt (1) = (1 : Int32) := by decide +kernel
theorem q267_20 : qJ 267 20 (.goto 4) 23 (4) 24 := by decide +kernel
theorem q267_23 : qD 267 23 (.iconst 0) 1 24 ∧ Int32.ofInt (0) = (0 : Int32) := by decide +kernel
theorem q267_24 : qD 267 24 (.ireturn) 1 25 ∧ mR 267 = some .boolean := by decide +kernel
theorem q268_0 : qD 268 0 (.aload_n 0) 1 1 ∧ ((0 : Fin 4) : Nat) = 0 := by decide +kernel
theorem q268_1 : qD 268 1 (.iconst 0) 1 2 ∧ Int32.ofInt (0) = (0 : Int32) := by decide +kernel
theorem q268_2 : qP 268 2 90 5 11 0 1265 0 := by decide +kernel
theorem q268_5 : qD 268 5 (.aload_n 0) 1 6 ∧ ((0 : Fin 4) : Nat) = 0 := by decide +kernel
theorem q268_6 : qD 268 6 (.iload_n 1) 1 7 ∧ ((1 : Fin 4) : Nat) = 1 := by decide +kernel
theorem q268_7 : qD 268 7 (.invokevirtual 449) 3 10 ∧ qI 268 449 267 1836 := by decide +kernel
theorem q268_10 : qJ 268 10 (.ifCond .eq 8) 13 (8) 18 := by decide +kernel
theorem q268_13 : qD 268 13 (.iload_n 2) 1 14 ∧ ((2 : Fin 4) : Nat) = 2 := by decide +kernel
theorem q268_14 : qD 268 14 (.iconst (-1)) 1 15 ∧ Int32.ofInt (-1) = (-1 : Int32) := by decide +kernel
theorem q268_15 : qJ 268 15 (.if_icmp .ge 5) 18 (5) 20 := by decide +kernel
theorem q268_18 : qD 268 18 (.iconst (-1)) 1 19 ∧ Int32.ofInt (-1) = (-1 : Int32) := by decide +kernel
theorem q268_19 : qD 268 19 (.ireturn) 1 20 ∧ mR 268 = some .int := by decide +kernel
theorem q268_20 : qD 268 20 (.iconst 0) 1 21 ∧ Int32.ofInt (0) = (0 : Int32) := by decide +kernel
theorem q268_21 : qD 268 21 (.istore_n 3) 1 22 ∧ ((3 : Fin 4) : Nat) = 3 ∧ 3 < mL 268 := by decide +kernel
theorem q268_22 : qD 268 22 (.iconst 0) 1 23 ∧ Int32.ofInt (0) = (0 : Int32) := by decide +kernel
theorem q268_23 : qD 268 23 (.istore 4) 2 25 ∧ 4 < mL 268 := by decide +kernel
theorem q268_25 : qD 268 25 (.iload 4) 2 27 := by decide +kernel
