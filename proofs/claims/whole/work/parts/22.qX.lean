theorem q0_0 : qD 0 0 (.aload_n 0) 1 1 ∧ ((0 : Fin 4) : Nat) = 0 := by decide +kernel
theorem q0_1 : qD 0 1 (.invokespecial 3) 3 4 ∧ inG 259 (.methodLink (mN 0).cls 3 Lib.objectInit) := by decide +kernel
theorem q0_4 : qD 0 4 (.aload_n 0) 1 5 ∧ ((0 : Fin 4) : Nat) = 0 := by decide +kernel
theorem q0_5 : qD 0 5 (.sipush 1320) 3 8 ∧ (Int16.ofInt (1320)).toInt32 = (1320 : Int32) := by decide +kernel
theorem q0_8 : qD 0 8 (.newarray .int) 2 10 ∧ (100 = 100 ∨ 100 = 101 ∨ 100 = 102 ∨ 100 = 103) ∧ newarray.typeOf .int = kty 100 ∧ inG 165 (.arrayClass (kty 100)) := by decide +kernel
theorem q0_10 : qP 0 10 9 13 0 0 260 2 := by decide +kernel
theorem q0_13 : qD 0 13 (.return_) 1 14 ∧ mR 0 = none := by decide +kernel
theorem q1_0 : qD 1 0 (.aload_n 0) 1 1 ∧ ((0 : Fin 4) : Nat) = 0 := by decide +kernel
theorem q1_1 : qD 1 1 (.iconst 0) 1 2 ∧ Int32.ofInt (0) = (0 : Int32) := by decide +kernel
theorem q1_2 : qP 1 2 15 5 0 2 262 0 := by decide +kernel
theorem q1_5 : qD 1 5 (.return_) 1 6 ∧ mR 1 = none := by decide +kernel
theorem q2_0 : qD 2 0 (.aload_n 1) 1 1 ∧ ((1 : Fin 4) : Nat) = 1 := by decide +kernel
theorem q2_1 : qG 2 1 19 4 7 0 239 2 := by decide +kernel
theorem q2_4 : qD 2 4 (.iconst 0) 1 5 ∧ Int32.ofInt (0) = (0 : Int32) := by decide +kernel
theorem q2_5 : qD 2 5 (.aload_n 0) 1 6 ∧ ((0 : Fin 4) : Nat) = 0 := by decide +kernel
theorem q2_6 : qG 2 6 9 9 0 0 260 2 := by decide +kernel
theorem q2_9 : qD 2 9 (.aload_n 0) 1 10 ∧ ((0 : Fin 4) : Nat) = 0 := by decide +kernel
theorem q2_10 : qG 2 10 24 13 0 1 261 0 := by decide +kernel
theorem q2_13 : qD 2 13 (.bipush 33) 2 15 ∧ (Int8.ofInt (33)).toInt32 = (33 : Int32) := by decide +kernel
theorem q2_15 : qD 2 15 (.imul) 1 16 := by decide +kernel
theorem q2_16 : qD 2 16 (.bipush 33) 2 18 ∧ (Int8.ofInt (33)).toInt32 = (33 : Int32) := by decide +kernel
theorem q2_18 : qD 2 18 (.invokestatic 27) 3 21 ∧ inG 794 (.methodLink (mN 2).cls 27 arraycopyName) := by decide +kernel
theorem q2_21 : qD 2 21 (.aload_n 0) 1 22 ∧ ((0 : Fin 4) : Nat) = 0 := by decide +kernel
theorem q2_22 : qD 2 22 (.aload_n 0) 1 23 ∧ ((0 : Fin 4) : Nat) = 0 := by decide +kernel
theorem q2_23 : qG 2 23 24 26 0 1 261 0 := by decide +kernel
theorem q2_26 : qD 2 26 (.iconst 1) 1 27 ∧ Int32.ofInt (1) = (1 : Int32) := by decide +kernel
theorem q2_27 : qD 2 27 (.iadd) 1 28 := by decide +kernel
theorem q2_28 : qD 2 28 (.bipush 40) 2 30 ∧ (Int8.ofInt (40)).toInt32 = (40 : Int32) := by decide +kernel
theorem q2_30 : qD 2 30 (.irem) 1 31 := by decide +kernel
theorem q2_31 : qP 2 31 24 34 0 1 261 0 := by decide +kernel
theorem q2_34 : qD 2 34 (.aload_n 0) 1 35 ∧ ((0 : Fin 4) : Nat) = 0 := by decide +kernel
theorem q2_35 : qD 2 35 (.aload_n 0) 1 36 ∧ ((0 : Fin 4) : Nat) = 0 := by decide +kernel
theorem q2_36 : qG 2 36 15 39 0 2 262 0 := by decide +kernel
theorem q2_39 : qD 2 39 (.iconst 1) 1 40 ∧ Int32.ofInt (1) = (1 : Int32) := by decide +kernel
theorem q2_40 : qD 2 40 (.iadd) 1 41 := by decide +kernel
theorem q2_41 : qD 2 41 (.bipush 40) 2 43 ∧ (Int8.ofInt (40)).toInt32 = (40 : Int32) := by decide +kernel
theorem q2_43 : qD 2 43 (.invokestatic 33) 3 46 ∧ inG 795 (.methodLink (mN 2).cls 33 Lib.Math.min.name) := by decide +kernel
theorem q2_46 : qP 2 46 15 49 0 2 262 0 := by decide +kernel
theorem q2_49 : qD 2 49 (.return_) 1 50 ∧ mR 2 = none := by decide +kernel
theorem q3_0 : qD 3 0 (.aload_n 0) 1 1 ∧ ((0 : Fin 4) : Nat) = 0 := by decide +kernel
theorem q3_1 : qG 3 1 15 4 0 2 262 0 := by decide +kernel
theorem q3_4 : qJ 3 4 (.ifCond .le 50) 7 (50) 54 := by decide +kernel
theorem q3_7 : qD 3 7 (.aload_n 0) 1 8 ∧ ((0 : Fin 4) : Nat) = 0 := by decide +kernel
theorem q3_8 : qD 3 8 (.aload_n 0) 1 9 ∧ ((0 : Fin 4) : Nat) = 0 := by decide +kernel
theorem q3_9 : qG 3 9 24 12 0 1 261 0 := by decide +kernel
theorem q3_12 : qD 3 12 (.bipush 40) 2 14 ∧ (Int8.ofInt (40)).toInt32 = (40 : Int32) := by decide +kernel
theorem q3_14 : qD 3 14 (.iadd) 1 15 := by decide +kernel
theorem q3_15 : qD 3 15 (.iconst 1) 1 16 ∧ Int32.ofInt (1) = (1 : Int32) := by decide +kernel
theorem q3_16 : qD 3 16 (.isub) 1 17 := by decide +kernel
theorem q3_17 : qD 3 17 (.bipush 40) 2 19 ∧ (Int8.ofInt (40)).toInt32 = (40 : Int32) := by decide +kernel
theorem q3_19 : qD 3 19 (.irem) 1 20 := by decide +kernel
theorem q3_20 : qP 3 20 24 23 0 1 261 0 := by decide +kernel
theorem q3_23 : qD 3 23 (.aload_n 0) 1 24 ∧ ((0 : Fin 4) : Nat) = 0 := by decide +kernel
theorem q3_24 : qD 3 24 (.dup) 1 25 := by decide +kernel
theorem q3_25 : qG 3 25 15 28 0 2 262 0 := by decide +kernel
theorem q3_28 : qD 3 28 (.iconst 1) 1 29 ∧ Int32.ofInt (1) = (1 : Int32) := by decide +kernel
theorem q3_29 : qD 3 29 (.isub) 1 30 := by decide +kernel
theorem q3_30 : qP 3 30 15 33 0 2 262 0 := by decide +kernel
theorem q3_33 : qD 3 33 (.aload_n 0) 1 34 ∧ ((0 : Fin 4) : Nat) = 0 := by decide +kernel
theorem q3_34 : qG 3 34 9 37 0 0 260 2 := by decide +kernel
theorem q3_37 : qD 3 37 (.aload_n 0) 1 38 ∧ ((0 : Fin 4) : Nat) = 0 := by decide +kernel
theorem q3_38 : qG 3 38 24 41 0 1 261 0 := by decide +kernel
theorem q3_41 : qD 3 41 (.bipush 33) 2 43 ∧ (Int8.ofInt (33)).toInt32 = (33 : Int32) := by decide +kernel
theorem q3_43 : qD 3 43 (.imul) 1 44 := by decide +kernel
theorem q3_44 : qD 3 44 (.aload_n 1) 1 45 ∧ ((1 : Fin 4) : Nat) = 1 := by decide +kernel
theorem q3_45 : qG 3 45 19 48 7 0 239 2 := by decide +kernel
theorem q3_48 : qD 3 48 (.iconst 0) 1 49 ∧ Int32.ofInt (0) = (0 : Int32) := by decide +kernel
theorem q3_49 : qD 3 49 (.bipush 33) 2 51 ∧ (Int8.ofInt (33)).toInt32 = (33 : Int32) := by decide +kernel
theorem q3_51 : qD 3 51 (.invokestatic 27) 3 54 ∧ inG 794 (.methodLink (mN 3).cls 27 arraycopyName) := by decide +kernel
theorem q3_54 : qD 3 54 (.return_) 1 55 ∧ mR 3 = none := by decide +kernel
theorem q4_0 : qD 4 0 (.aload_n 0) 1 1 ∧ ((0 : Fin 4) : Nat) = 0 := by decide +kernel
theorem q4_1 : qD 4 1 (.invokespecial 3) 3 4 ∧ inG 311 (.methodLink (mN 4).cls 3 Lib.objectInit) := by decide +kernel
theorem q4_4 : qD 4 4 (.return_) 1 5 ∧ mR 4 = none := by decide +kernel
theorem q5_0 : qD 5 0 (.aload_n 0) 1 1 ∧ ((0 : Fin 4) : Nat) = 0 := by decide +kernel
theorem q5_1 : qD 5 1 (.iconst 0) 1 2 ∧ Int32.ofInt (0) = (0 : Int32) := by decide +kernel
theorem q5_2 : qP 5 2 9 5 1 2 316 0 := by decide +kernel
theorem q5_5 : qD 5 5 (.return_) 1 6 ∧ mR 5 = none := by decide +kernel
theorem q6_0 : qD 6 0 (.aload_n 0) 1 1 ∧ ((0 : Fin 4) : Nat) = 0 := by decide +kernel
theorem q6_1 : qG 6 1 9 4 1 2 316 0 := by decide +kernel
theorem q6_4 : qJ 6 4 (.ifCond .ne 29) 7 (29) 33 := by decide +kernel
theorem q6_7 : qD 6 7 (.aload_n 0) 1 8 ∧ ((0 : Fin 4) : Nat) = 0 := by decide +kernel
theorem q6_8 : qD 6 8 (.ldc 17) 2 10 ∧ inG 1080 (.constant (mN 6).cls 17 (2147483647)) := by decide +kernel
theorem q6_10 : qP 6 10 18 13 1 0 312 0 := by decide +kernel
theorem q6_13 : qD 6 13 (.aload_n 0) 1 14 ∧ ((0 : Fin 4) : Nat) = 0 := by decide +kernel
theorem q6_14 : qD 6 14 (.iconst 0) 1 15 ∧ Int32.ofInt (0) = (0 : Int32) := by decide +kernel
theorem q6_15 : qP 6 15 22 18 1 1 314 0 := by decide +kernel
theorem q6_18 : qD 6 18 (.aload_n 0) 1 19 ∧ ((0 : Fin 4) : Nat) = 0 := by decide +kernel
theorem q6_19 : qD 6 19 (.aload_n 1) 1 20 ∧ ((1 : Fin 4) : Nat) = 1 := by decide +kernel
theorem q6_20 : qD 6 20 (.iconst 0) 1 21 ∧ Int32.ofInt (0) = (0 : Int32) := by decide +kernel
theorem q6_21 : qD 6 21 (.bipush 32) 2 23 ∧ (Int8.ofInt (32)).toInt32 = (32 : Int32) := by decide +kernel
theorem q6_23 : qD 6 23 (.iconst 0) 1 24 ∧ Int32.ofInt (0) = (0 : Int32) := by decide +kernel
theorem q6_24 : qD 6 24 (.iconst 0) 1 25 ∧ Int32.ofInt (0) = (0 : Int32) := by decide +kernel
theorem q6_25 : qD 6 25 (.invokevirtual 25) 3 28 ∧ qI 6 25 7 1081 := by decide +kernel
theorem q6_28 : qD 6 28 (.aload_n 0) 1 29 ∧ ((0 : Fin 4) : Nat) = 0 := by decide +kernel
theorem q6_29 : qD 6 29 (.iconst 1) 1 30 ∧ Int32.ofInt (1) = (1 : Int32) := by decide +kernel
theorem q6_30 : qP 6 30 9 33 1 2 316 0 := by decide +kernel
theorem q6_33 : qD 6 33 (.return_) 1 34 ∧ mR 6 = none := by decide +kernel
theorem q7_0 : qD 7 0 (.iload_n 2) 1 1 ∧ ((2 : Fin 4) : Nat) = 2 := by decide +kernel
theorem q7_1 : qD 7 1 (.aload_n 1) 1 2 ∧ ((1 : Fin 4) : Nat) = 1 := by decide +kernel
theorem q7_2 : qG 7 2 29 5 3 4 181 0 := by decide +kernel
theorem q7_5 : qJ 7 5 (.if_icmp .lt 16) 8 (16) 21 := by decide +kernel
theorem q7_8 : qD 7 8 (.aload_n 0) 1 9 ∧ ((0 : Fin 4) : Nat) = 0 := by decide +kernel
theorem q7_9 : qD 7 9 (.iload 4) 2 11 := by decide +kernel
theorem q7_11 : qP 7 11 18 14 1 0 312 0 := by decide +kernel
theorem q7_14 : qD 7 14 (.aload_n 0) 1 15 ∧ ((0 : Fin 4) : Nat) = 0 := by decide +kernel
theorem q7_15 : qD 7 15 (.iload 5) 2 17 := by decide +kernel
theorem q7_17 : qP 7 17 22 20 1 1 314 0 := by decide +kernel
theorem q7_20 : qD 7 20 (.return_) 1 21 ∧ mR 7 = none := by decide +kernel
theorem q7_21 : qD 7 21 (.aload_n 1) 1 22 ∧ ((1 : Fin 4) : Nat) = 1 := by decide +kernel
theorem q7_22 : qG 7 22 29 25 3 4 181 0 := by decide +kernel
theorem q7_25 : qD 7 25 (.iload_n 2) 1 26 ∧ ((2 : Fin 4) : Nat) = 2 := by decide +kernel
theorem q7_26 : qD 7 26 (.isub) 1 27 := by decide +kernel
theorem q7_27 : qD 7 27 (.iconst 1) 1 28 ∧ Int32.ofInt (1) = (1 : Int32) := by decide +kernel
theorem q7_28 : qD 7 28 (.isub) 1 29 := by decide +kernel
theorem q7_29 : qD 7 29 (.istore 6) 2 31 ∧ 6 < mL 7 := by decide +kernel
theorem q7_31 : qD 7 31 (.iconst 1) 1 32 ∧ Int32.ofInt (1) = (1 : Int32) := by decide +kernel
theorem q7_32 : qD 7 32 (.istore 7) 2 34 ∧ 7 < mL 7 := by decide +kernel
theorem q7_34 : qD 7 34 (.iload 7) 2 36 := by decide +kernel
theorem q7_36 : qD 7 36 (.iconst 5) 1 37 ∧ Int32.ofInt (5) = (5 : Int32) := by decide +kernel
theorem q7_37 : qJ 7 37 (.if_icmp .gt 67) 40 (67) 104 := by decide +kernel
theorem q7_40 : qD 7 40 (.iload_n 3) 1 41 ∧ ((3 : Fin 4) : Nat) = 3 := by decide +kernel
theorem q7_41 : qD 7 41 (.bipush 32) 2 43 ∧ (Int8.ofInt (32)).toInt32 = (32 : Int32) := by decide +kernel
theorem q7_43 : qD 7 43 (.iload 7) 2 45 := by decide +kernel
theorem q7_45 : qD 7 45 (.ishr) 1 46 := by decide +kernel
theorem q7_46 : qD 7 46 (.isub) 1 47 := by decide +kernel
theorem q7_47 : qD 7 47 (.istore 8) 2 49 ∧ 8 < mL 7 := by decide +kernel
theorem q7_49 : qD 7 49 (.iload 4) 2 51 := by decide +kernel
theorem q7_51 : qD 7 51 (.iload 7) 2 53 := by decide +kernel
theorem q7_53 : qD 7 53 (.aload_n 1) 1 54 ∧ ((1 : Fin 4) : Nat) = 1 := by decide +kernel
theorem q7_54 : qD 7 54 (.iload_n 2) 1 55 ∧ ((2 : Fin 4) : Nat) = 2 := by decide +kernel
theorem q7_55 : qD 7 55 (.invokevirtual 34) 3 58 ∧ qI 7 34 26 1085 := by decide +kernel
theorem q7_58 : qD 7 58 (.imul) 1 59 := by decide +kernel
theorem q7_59 : qD 7 59 (.iadd) 1 60 := by decide +kernel
theorem q7_60 : qD 7 60 (.istore 9) 2 62 ∧ 9 < mL 7 := by decide +kernel
theorem q7_62 : qD 7 62 (.iload 8) 2 64 := by decide +kernel
theorem q7_64 : qD 7 64 (.iload 6) 2 66 := by decide +kernel
theorem q7_66 : qJ 7 66 (.if_icmp .lt 32) 69 (32) 98 := by decide +kernel
theorem q7_69 : qD 7 69 (.iload 9) 2 71 := by decide +kernel
theorem q7_71 : qD 7 71 (.aload_n 0) 1 72 ∧ ((0 : Fin 4) : Nat) = 0 := by decide +kernel
theorem q7_72 : qG 7 72 18 75 1 0 312 0 := by decide +kernel
theorem q7_75 : qJ 7 75 (.if_icmp .ge 23) 78 (23) 98 := by decide +kernel
theorem q7_78 : qD 7 78 (.aload_n 0) 1 79 ∧ ((0 : Fin 4) : Nat) = 0 := by decide +kernel
theorem q7_79 : qD 7 79 (.aload_n 1) 1 80 ∧ ((1 : Fin 4) : Nat) = 1 := by decide +kernel
theorem q7_80 : qD 7 80 (.iload_n 2) 1 81 ∧ ((2 : Fin 4) : Nat) = 2 := by decide +kernel
theorem q7_81 : qD 7 81 (.iconst 1) 1 82 ∧ Int32.ofInt (1) = (1 : Int32) := by decide +kernel
theorem q7_82 : qD 7 82 (.iadd) 1 83 := by decide +kernel
theorem q7_83 : qD 7 83 (.iload 8) 2 85 := by decide +kernel
theorem q7_85 : qD 7 85 (.iload 9) 2 87 := by decide +kernel
theorem q7_87 : qD 7 87 (.bipush 10) 2 89 ∧ (Int8.ofInt (10)).toInt32 = (10 : Int32) := by decide +kernel
theorem q7_89 : qD 7 89 (.iload 5) 2 91 := by decide +kernel
theorem q7_91 : qD 7 91 (.imul) 1 92 := by decide +kernel
theorem q7_92 : qD 7 92 (.iload 7) 2 94 := by decide +kernel
theorem q7_94 : qD 7 94 (.iadd) 1 95 := by decide +kernel
theorem q7_95 : qD 7 95 (.invokevirtual 25) 3 98 ∧ qI 7 25 7 1081 := by decide +kernel
theorem q7_98 : qD 7 98 (.iinc 7 1) 3 101 ∧ 7 < mL 7 ∧ Int32.ofInt (1) = (1 : Int32) := by decide +kernel
theorem q7_101 : qJ 7 101 (.goto (-67)) 104 (-67) 34 := by decide +kernel
theorem q7_104 : qD 7 104 (.return_) 1 105 ∧ mR 7 = none := by decide +kernel
theorem q8_0 : qD 8 0 (.aload_n 0) 1 1 ∧ ((0 : Fin 4) : Nat) = 0 := by decide +kernel
theorem q8_1 : qD 8 1 (.invokespecial 3) 3 4 ∧ inG 249 (.methodLink (mN 8).cls 3 Lib.objectInit) := by decide +kernel
theorem q8_4 : qD 8 4 (.aload_n 0) 1 5 ∧ ((0 : Fin 4) : Nat) = 0 := by decide +kernel
theorem q8_5 : qD 8 5 (.sipush 300) 3 8 ∧ (Int16.ofInt (300)).toInt32 = (300 : Int32) := by decide +kernel
theorem q8_8 : qD 8 8 (.newarray .int) 2 10 ∧ (100 = 100 ∨ 100 = 101 ∨ 100 = 102 ∨ 100 = 103) ∧ newarray.typeOf .int = kty 100 ∧ inG 165 (.arrayClass (kty 100)) := by decide +kernel
theorem q8_10 : qP 8 10 11 13 2 0 250 2 := by decide +kernel
theorem q8_13 : qD 8 13 (.return_) 1 14 ∧ mR 8 = none := by decide +kernel
theorem q9_0 : qD 9 0 (.aload_n 1) 1 1 ∧ ((1 : Fin 4) : Nat) = 1 := by decide +kernel
theorem q9_1 : qG 9 1 15 4 7 0 237 2 := by decide +kernel
theorem q9_4 : qD 9 4 (.bipush 32) 2 6 ∧ (Int8.ofInt (32)).toInt32 = (32 : Int32) := by decide +kernel
theorem q9_6 : qD 9 6 (.iaload) 1 7 := by decide +kernel
theorem q9_7 : qD 9 7 (.bipush 100) 2 9 ∧ (Int8.ofInt (100)).toInt32 = (100 : Int32) := by decide +kernel
theorem q9_9 : qD 9 9 (.irem) 1 10 := by decide +kernel
theorem q9_10 : qD 9 10 (.iconst 3) 1 11 ∧ Int32.ofInt (3) = (3 : Int32) := by decide +kernel
theorem q9_11 : qD 9 11 (.imul) 1 12 := by decide +kernel
theorem q9_12 : qD 9 12 (.istore_n 2) 1 13 ∧ ((2 : Fin 4) : Nat) = 2 ∧ 2 < mL 9 := by decide +kernel
theorem q9_13 : qD 9 13 (.aload_n 0) 1 14 ∧ ((0 : Fin 4) : Nat) = 0 := by decide +kernel
theorem q9_14 : qG 9 14 11 17 2 0 250 2 := by decide +kernel
theorem q9_17 : qD 9 17 (.iload_n 2) 1 18 ∧ ((2 : Fin 4) : Nat) = 2 := by decide +kernel
theorem q9_18 : qD 9 18 (.aload_n 1) 1 19 ∧ ((1 : Fin 4) : Nat) = 1 := by decide +kernel
theorem q9_19 : qG 9 19 15 22 7 0 237 2 := by decide +kernel
theorem q9_22 : qD 9 22 (.bipush 28) 2 24 ∧ (Int8.ofInt (28)).toInt32 = (28 : Int32) := by decide +kernel
theorem q9_24 : qD 9 24 (.iaload) 1 25 := by decide +kernel
theorem q9_25 : qD 9 25 (.iastore) 1 26 := by decide +kernel
theorem q9_26 : qD 9 26 (.aload_n 0) 1 27 ∧ ((0 : Fin 4) : Nat) = 0 := by decide +kernel
theorem q9_27 : qG 9 27 11 30 2 0 250 2 := by decide +kernel
theorem q9_30 : qD 9 30 (.iload_n 2) 1 31 ∧ ((2 : Fin 4) : Nat) = 2 := by decide +kernel
theorem q9_31 : qD 9 31 (.iconst 1) 1 32 ∧ Int32.ofInt (1) = (1 : Int32) := by decide +kernel
theorem q9_32 : qD 9 32 (.iadd) 1 33 := by decide +kernel
theorem q9_33 : qD 9 33 (.aload_n 1) 1 34 ∧ ((1 : Fin 4) : Nat) = 1 := by decide +kernel
theorem q9_34 : qG 9 34 15 37 7 0 237 2 := by decide +kernel
theorem q9_37 : qD 9 37 (.bipush 29) 2 39 ∧ (Int8.ofInt (29)).toInt32 = (29 : Int32) := by decide +kernel
theorem q9_39 : qD 9 39 (.iaload) 1 40 := by decide +kernel
theorem q9_40 : qD 9 40 (.iastore) 1 41 := by decide +kernel
theorem q9_41 : qD 9 41 (.aload_n 0) 1 42 ∧ ((0 : Fin 4) : Nat) = 0 := by decide +kernel
theorem q9_42 : qG 9 42 11 45 2 0 250 2 := by decide +kernel
theorem q9_45 : qD 9 45 (.iload_n 2) 1 46 ∧ ((2 : Fin 4) : Nat) = 2 := by decide +kernel
theorem q9_46 : qD 9 46 (.iconst 2) 1 47 ∧ Int32.ofInt (2) = (2 : Int32) := by decide +kernel
theorem q9_47 : qD 9 47 (.iadd) 1 48 := by decide +kernel
theorem q9_48 : qD 9 48 (.aload_n 1) 1 49 ∧ ((1 : Fin 4) : Nat) = 1 := by decide +kernel
theorem q9_49 : qG 9 49 15 52 7 0 237 2 := by decide +kernel
theorem q9_52 : qD 9 52 (.bipush 31) 2 54 ∧ (Int8.ofInt (31)).toInt32 = (31 : Int32) := by decide +kernel
theorem q9_54 : qD 9 54 (.iaload) 1 55 := by decide +kernel
theorem q9_55 : qD 9 55 (.iastore) 1 56 := by decide +kernel
theorem q9_56 : qD 9 56 (.return_) 1 57 ∧ mR 9 = none := by decide +kernel
theorem q10_0 : qD 10 0 (.aload_n 0) 1 1 ∧ ((0 : Fin 4) : Nat) = 0 := by decide +kernel
theorem q10_1 : qG 10 1 11 4 2 0 250 2 := by decide +kernel
theorem q10_4 : qD 10 4 (.iload_n 1) 1 5 ∧ ((1 : Fin 4) : Nat) = 1 := by decide +kernel
theorem q10_5 : qD 10 5 (.bipush 100) 2 7 ∧ (Int8.ofInt (100)).toInt32 = (100 : Int32) := by decide +kernel
theorem q10_7 : qD 10 7 (.irem) 1 8 := by decide +kernel
theorem q10_8 : qD 10 8 (.iconst 3) 1 9 ∧ Int32.ofInt (3) = (3 : Int32) := by decide +kernel
theorem q10_9 : qD 10 9 (.imul) 1 10 := by decide +kernel
theorem q10_10 : qD 10 10 (.iload_n 2) 1 11 ∧ ((2 : Fin 4) : Nat) = 2 := by decide +kernel
theorem q10_11 : qD 10 11 (.iadd) 1 12 := by decide +kernel
theorem q10_12 : qD 10 12 (.iaload) 1 13 := by decide +kernel
theorem q10_13 : qD 10 13 (.ireturn) 1 14 ∧ mR 10 = some .int := by decide +kernel
theorem q11_0 : qD 11 0 (.aload_n 1) 1 1 ∧ ((1 : Fin 4) : Nat) = 1 := by decide +kernel
theorem q11_1 : qG 11 1 11 4 2 0 250 2 := by decide +kernel
theorem q11_4 : qD 11 4 (.iconst 0) 1 5 ∧ Int32.ofInt (0) = (0 : Int32) := by decide +kernel
theorem q11_5 : qD 11 5 (.aload_n 0) 1 6 ∧ ((0 : Fin 4) : Nat) = 0 := by decide +kernel
theorem q11_6 : qG 11 6 11 9 2 0 250 2 := by decide +kernel
theorem q11_9 : qD 11 9 (.iconst 0) 1 10 ∧ Int32.ofInt (0) = (0 : Int32) := by decide +kernel
theorem q11_10 : qD 11 10 (.aload_n 0) 1 11 ∧ ((0 : Fin 4) : Nat) = 0 := by decide +kernel
theorem q11_11 : qG 11 11 11 14 2 0 250 2 := by decide +kernel
theorem q11_14 : qD 11 14 (.arraylength) 1 15 := by decide +kernel
theorem q11_15 : qD 11 15 (.invokestatic 20) 3 18 ∧ inG 966 (.methodLink (mN 11).cls 20 arraycopyName) := by decide +kernel
theorem q11_18 : qD 11 18 (.return_) 1 19 ∧ mR 11 = none := by decide +kernel
theorem q12_0 : qD 12 0 (.aload_n 0) 1 1 ∧ ((0 : Fin 4) : Nat) = 0 := by decide +kernel
theorem q12_1 : qD 12 1 (.invokespecial 3) 3 4 ∧ inG 171 (.methodLink (mN 12).cls 3 Lib.objectInit) := by decide +kernel
theorem q12_4 : qD 12 4 (.aload_n 0) 1 5 ∧ ((0 : Fin 4) : Nat) = 0 := by decide +kernel
theorem q12_5 : qD 12 5 (.iconst 4) 1 6 ∧ Int32.ofInt (4) = (4 : Int32) := by decide +kernel
theorem q12_6 : qD 12 6 (.newarray .int) 2 8 ∧ (100 = 100 ∨ 100 = 101 ∨ 100 = 102 ∨ 100 = 103) ∧ newarray.typeOf .int = kty 100 ∧ inG 165 (.arrayClass (kty 100)) := by decide +kernel
theorem q12_8 : qP 12 8 9 11 3 0 172 2 := by decide +kernel
theorem q12_11 : qD 12 11 (.aload_n 0) 1 12 ∧ ((0 : Fin 4) : Nat) = 0 := by decide +kernel
theorem q12_12 : qD 12 12 (.bipush 35) 2 14 ∧ (Int8.ofInt (35)).toInt32 = (35 : Int32) := by decide +kernel
theorem q12_14 : qD 12 14 (.newarray .int) 2 16 ∧ (100 = 100 ∨ 100 = 101 ∨ 100 = 102 ∨ 100 = 103) ∧ newarray.typeOf .int = kty 100 ∧ inG 165 (.arrayClass (kty 100)) := by decide +kernel
theorem q12_16 : qP 12 16 15 19 3 1 174 2 := by decide +kernel
theorem q12_19 : qD 12 19 (.aload_n 0) 1 20 ∧ ((0 : Fin 4) : Nat) = 0 := by decide +kernel
theorem q12_20 : qD 12 20 (.bipush 12) 2 22 ∧ (Int8.ofInt (12)).toInt32 = (12 : Int32) := by decide +kernel
theorem q12_22 : qD 12 22 (.newarray .int) 2 24 ∧ (100 = 100 ∨ 100 = 101 ∨ 100 = 102 ∨ 100 = 103) ∧ newarray.typeOf .int = kty 100 ∧ inG 165 (.arrayClass (kty 100)) := by decide +kernel
theorem q12_24 : qP 12 24 18 27 3 2 175 2 := by decide +kernel
theorem q12_27 : qD 12 27 (.return_) 1 28 ∧ mR 12 = none := by decide +kernel
theorem q13_0 : qD 13 0 (.aload_n 0) 1 1 ∧ ((0 : Fin 4) : Nat) = 0 := by decide +kernel
theorem q13_1 : qD 13 1 (.iconst 0) 1 2 ∧ Int32.ofInt (0) = (0 : Int32) := by decide +kernel
theorem q13_2 : qP 13 2 21 5 3 3 176 0 := by decide +kernel
theorem q13_5 : qD 13 5 (.aload_n 0) 1 6 ∧ ((0 : Fin 4) : Nat) = 0 := by decide +kernel
theorem q13_6 : qD 13 6 (.iconst 0) 1 7 ∧ Int32.ofInt (0) = (0 : Int32) := by decide +kernel
theorem q13_7 : qP 13 7 25 10 3 4 180 0 := by decide +kernel
theorem q13_10 : qD 13 10 (.aload_n 0) 1 11 ∧ ((0 : Fin 4) : Nat) = 0 := by decide +kernel
theorem q13_11 : qD 13 11 (.iconst 0) 1 12 ∧ Int32.ofInt (0) = (0 : Int32) := by decide +kernel
theorem q13_12 : qP 13 12 28 15 3 5 184 0 := by decide +kernel
theorem q13_15 : qD 13 15 (.getstatic 32) 3 18 ∧ cS[0]? = some ("RULE_USUAL", (cS.getD 0 ("", [])).2) ∧ inN 419 (.fieldLinkNest (mN 13).cls 32 RX10 "RULE_USUAL" "[I" "OneWindow") := by decide +kernel
theorem q13_18 : qD 13 18 (.iconst 0) 1 19 ∧ Int32.ofInt (0) = (0 : Int32) := by decide +kernel
theorem q13_19 : qD 13 19 (.aload_n 0) 1 20 ∧ ((0 : Fin 4) : Nat) = 0 := by decide +kernel
theorem q13_20 : qG 13 20 9 23 3 0 172 2 := by decide +kernel
theorem q13_23 : qD 13 23 (.iconst 0) 1 24 ∧ Int32.ofInt (0) = (0 : Int32) := by decide +kernel
theorem q13_24 : qD 13 24 (.iconst 4) 1 25 ∧ Int32.ofInt (4) = (4 : Int32) := by decide +kernel
theorem q13_25 : qD 13 25 (.invokestatic 35) 3 28 ∧ inG 421 (.methodLink (mN 13).cls 35 arraycopyName) := by decide +kernel
theorem q13_28 : qD 13 28 (.iconst 0) 1 29 ∧ Int32.ofInt (0) = (0 : Int32) := by decide +kernel
theorem q13_29 : qD 13 29 (.istore_n 2) 1 30 ∧ ((2 : Fin 4) : Nat) = 2 ∧ 2 < mL 13 := by decide +kernel
theorem q13_30 : qD 13 30 (.iload_n 2) 1 31 ∧ ((2 : Fin 4) : Nat) = 2 := by decide +kernel
theorem q13_31 : qD 13 31 (.sipush 240) 3 34 ∧ (Int16.ofInt (240)).toInt32 = (240 : Int32) := by decide +kernel
theorem q13_34 : qJ 13 34 (.if_icmp .ge 26) 37 (26) 60 := by decide +kernel
theorem q13_37 : qD 13 37 (.aload_n 0) 1 38 ∧ ((0 : Fin 4) : Nat) = 0 := by decide +kernel
theorem q13_38 : qD 13 38 (.aload_n 1) 1 39 ∧ ((1 : Fin 4) : Nat) = 1 := by decide +kernel
theorem q13_39 : qD 13 39 (.invokevirtual 41) 3 42 ∧ qI 13 41 14 424 := by decide +kernel
theorem q13_42 : qD 13 42 (.aload_n 1) 1 43 ∧ ((1 : Fin 4) : Nat) = 1 := by decide +kernel
theorem q13_43 : qD 13 43 (.bipush 59) 2 45 ∧ (Int8.ofInt (59)).toInt32 = (59 : Int32) := by decide +kernel
theorem q13_45 : qD 13 45 (.invokevirtual 45) 3 48 ∧ qI 13 45 71 571 := by decide +kernel
theorem q13_48 : qJ 13 48 (.ifCond .ne 6) 51 (6) 54 := by decide +kernel
theorem q13_51 : qJ 13 51 (.goto 9) 54 (9) 60 := by decide +kernel
theorem q13_54 : qD 13 54 (.iinc 2 1) 3 57 ∧ 2 < mL 13 ∧ Int32.ofInt (1) = (1 : Int32) := by decide +kernel
theorem q13_57 : qJ 13 57 (.goto (-27)) 60 (-27) 30 := by decide +kernel
theorem q13_60 : qD 13 60 (.aload_n 1) 1 61 ∧ ((1 : Fin 4) : Nat) = 1 := by decide +kernel
theorem q13_61 : qD 13 61 (.invokevirtual 51) 3 64 ∧ qI 13 51 73 575 := by decide +kernel
theorem q13_64 : qD 13 64 (.aload_n 0) 1 65 ∧ ((0 : Fin 4) : Nat) = 0 := by decide +kernel
theorem q13_65 : qG 13 65 21 68 3 3 176 0 := by decide +kernel
theorem q13_68 : qD 13 68 (.iconst 2) 1 69 ∧ Int32.ofInt (2) = (2 : Int32) := by decide +kernel
theorem q13_69 : qJ 13 69 (.if_icmp .lt 22) 72 (22) 91 := by decide +kernel
theorem q13_72 : qD 13 72 (.aload_n 0) 1 73 ∧ ((0 : Fin 4) : Nat) = 0 := by decide +kernel
theorem q13_73 : qG 13 73 25 76 3 4 180 0 := by decide +kernel
theorem q13_76 : qD 13 76 (.iconst 1) 1 77 ∧ Int32.ofInt (1) = (1 : Int32) := by decide +kernel
theorem q13_77 : qJ 13 77 (.if_icmp .lt 14) 80 (14) 91 := by decide +kernel
theorem q13_80 : qD 13 80 (.aload_n 0) 1 81 ∧ ((0 : Fin 4) : Nat) = 0 := by decide +kernel
theorem q13_81 : qD 13 81 (.invokevirtual 54) 3 84 ∧ qI 13 54 16 579 := by decide +kernel
theorem q13_84 : qD 13 84 (.aload_n 0) 1 85 ∧ ((0 : Fin 4) : Nat) = 0 := by decide +kernel
theorem q13_85 : qG 13 85 21 88 3 3 176 0 := by decide +kernel
theorem q13_88 : qJ 13 88 (.if_icmp .lt 7) 91 (7) 95 := by decide +kernel
theorem q13_91 : qD 13 91 (.aload_n 1) 1 92 ∧ ((1 : Fin 4) : Nat) = 1 := by decide +kernel
theorem q13_92 : qD 13 92 (.invokevirtual 58) 3 95 ∧ qI 13 58 74 541 := by decide +kernel
theorem q13_95 : qD 13 95 (.return_) 1 96 ∧ mR 13 = none := by decide +kernel
theorem q14_0 : qD 14 0 (.aload_n 1) 1 1 ∧ ((1 : Fin 4) : Nat) = 1 := by decide +kernel
theorem q14_1 : qD 14 1 (.invokevirtual 61) 3 4 ∧ qI 14 61 69 428 := by decide +kernel
theorem q14_4 : qD 14 4 (.istore_n 2) 1 5 ∧ ((2 : Fin 4) : Nat) = 2 ∧ 2 < mL 14 := by decide +kernel
theorem q14_5 : qD 14 5 (.iload_n 2) 1 6 ∧ ((2 : Fin 4) : Nat) = 2 := by decide +kernel
theorem q14_6 : qD 14 6 (.bipush 115) 2 8 ∧ (Int8.ofInt (115)).toInt32 = (115 : Int32) := by decide +kernel
theorem q14_8 : qJ 14 8 (.if_icmp .ne 40) 11 (40) 48 := by decide +kernel
theorem q14_11 : qD 14 11 (.aload_n 0) 1 12 ∧ ((0 : Fin 4) : Nat) = 0 := by decide +kernel
theorem q14_12 : qG 14 12 28 15 3 5 184 0 := by decide +kernel
theorem q14_15 : qJ 14 15 (.ifCond .ne 33) 18 (33) 48 := by decide +kernel
theorem q14_18 : qD 14 18 (.aload_n 0) 1 19 ∧ ((0 : Fin 4) : Nat) = 0 := by decide +kernel
theorem q14_19 : qD 14 19 (.iconst 1) 1 20 ∧ Int32.ofInt (1) = (1 : Int32) := by decide +kernel
theorem q14_20 : qP 14 20 28 23 3 5 184 0 := by decide +kernel
theorem q14_23 : qD 14 23 (.aload_n 1) 1 24 ∧ ((1 : Fin 4) : Nat) = 1 := by decide +kernel
theorem q14_24 : qD 14 24 (.invokevirtual 64) 3 27 ∧ qI 14 64 70 436 := by decide +kernel
theorem q14_27 : qD 14 27 (.aload_n 0) 1 28 ∧ ((0 : Fin 4) : Nat) = 0 := by decide +kernel
theorem q14_28 : qD 14 28 (.aload_n 1) 1 29 ∧ ((1 : Fin 4) : Nat) = 1 := by decide +kernel
theorem q14_29 : qD 14 29 (.ldc 67) 2 31 ∧ cR[0]? = some ((mN 14).cls, 67, "wlgb", 0) := by decide +kernel
theorem q14_31 : qD 14 31 (.getstatic 69) 3 34 ∧ cS[1]? = some ("RULE_LEAST", (cS.getD 1 ("", [])).2) ∧ inN 441 (.fieldLinkNest (mN 14).cls 69 RX10 "RULE_LEAST" "[I" "OneWindow") := by decide +kernel
theorem q14_34 : qD 14 34 (.getstatic 72) 3 37 ∧ cS[2]? = some ("RULE_MOST", (cS.getD 2 ("", [])).2) ∧ inN 443 (.fieldLinkNest (mN 14).cls 72 RX10 "RULE_MOST" "[I" "OneWindow") := by decide +kernel
theorem q14_37 : qD 14 37 (.aload_n 0) 1 38 ∧ ((0 : Fin 4) : Nat) = 0 := by decide +kernel
theorem q14_38 : qG 14 38 9 41 3 0 172 2 := by decide +kernel
theorem q14_41 : qD 14 41 (.iconst 0) 1 42 ∧ Int32.ofInt (0) = (0 : Int32) := by decide +kernel
theorem q14_42 : qD 14 42 (.invokevirtual 75) 3 45 ∧ qI 14 75 15 445 := by decide +kernel
theorem q14_45 : qJ 14 45 (.goto 147) 48 (147) 192 := by decide +kernel
theorem q14_48 : qD 14 48 (.iload_n 2) 1 49 ∧ ((2 : Fin 4) : Nat) = 2 := by decide +kernel
theorem q14_49 : qD 14 49 (.bipush 99) 2 51 ∧ (Int8.ofInt (99)).toInt32 = (99 : Int32) := by decide +kernel
theorem q14_51 : qJ 14 51 (.if_icmp .ne 67) 54 (67) 118 := by decide +kernel
theorem q14_54 : qD 14 54 (.aload_n 0) 1 55 ∧ ((0 : Fin 4) : Nat) = 0 := by decide +kernel
theorem q14_55 : qG 14 55 21 58 3 3 176 0 := by decide +kernel
theorem q14_58 : qD 14 58 (.bipush 7) 2 60 ∧ (Int8.ofInt (7)).toInt32 = (7 : Int32) := by decide +kernel
theorem q14_60 : qJ 14 60 (.if_icmp .ge 58) 63 (58) 118 := by decide +kernel
theorem q14_63 : qD 14 63 (.aload_n 0) 1 64 ∧ ((0 : Fin 4) : Nat) = 0 := by decide +kernel
theorem q14_64 : qG 14 64 21 67 3 3 176 0 := by decide +kernel
theorem q14_67 : qD 14 67 (.iconst 5) 1 68 ∧ Int32.ofInt (5) = (5 : Int32) := by decide +kernel
theorem q14_68 : qD 14 68 (.imul) 1 69 := by decide +kernel
theorem q14_69 : qD 14 69 (.istore_n 3) 1 70 ∧ ((3 : Fin 4) : Nat) = 3 ∧ 3 < mL 14 := by decide +kernel
theorem q14_70 : qD 14 70 (.getstatic 79) 3 73 ∧ cS[3]? = some ("CELL_USUAL", (cS.getD 3 ("", [])).2) ∧ inN 557 (.fieldLinkNest (mN 14).cls 79 RX10 "CELL_USUAL" "[I" "OneWindow") := by decide +kernel
theorem q14_73 : qD 14 73 (.iconst 0) 1 74 ∧ Int32.ofInt (0) = (0 : Int32) := by decide +kernel
theorem q14_74 : qD 14 74 (.aload_n 0) 1 75 ∧ ((0 : Fin 4) : Nat) = 0 := by decide +kernel
theorem q14_75 : qG 14 75 15 78 3 1 174 2 := by decide +kernel
theorem q14_78 : qD 14 78 (.iload_n 3) 1 79 ∧ ((3 : Fin 4) : Nat) = 3 := by decide +kernel
theorem q14_79 : qD 14 79 (.iconst 5) 1 80 ∧ Int32.ofInt (5) = (5 : Int32) := by decide +kernel
theorem q14_80 : qD 14 80 (.invokestatic 35) 3 83 ∧ inG 421 (.methodLink (mN 14).cls 35 arraycopyName) := by decide +kernel
theorem q14_83 : qD 14 83 (.aload_n 0) 1 84 ∧ ((0 : Fin 4) : Nat) = 0 := by decide +kernel
theorem q14_84 : qD 14 84 (.dup) 1 85 := by decide +kernel
theorem q14_85 : qG 14 85 21 88 3 3 176 0 := by decide +kernel
theorem q14_88 : qD 14 88 (.iconst 1) 1 89 ∧ Int32.ofInt (1) = (1 : Int32) := by decide +kernel
theorem q14_89 : qD 14 89 (.iadd) 1 90 := by decide +kernel
theorem q14_90 : qP 14 90 21 93 3 3 176 0 := by decide +kernel
theorem q14_93 : qD 14 93 (.aload_n 1) 1 94 ∧ ((1 : Fin 4) : Nat) = 1 := by decide +kernel
theorem q14_94 : qD 14 94 (.invokevirtual 64) 3 97 ∧ qI 14 64 70 436 := by decide +kernel
theorem q14_97 : qD 14 97 (.aload_n 0) 1 98 ∧ ((0 : Fin 4) : Nat) = 0 := by decide +kernel
theorem q14_98 : qD 14 98 (.aload_n 1) 1 99 ∧ ((1 : Fin 4) : Nat) = 1 := by decide +kernel
theorem q14_99 : qD 14 99 (.ldc 82) 2 101 ∧ cR[1]? = some ((mN 14).cls, 82, "tmhxb", 1) := by decide +kernel
theorem q14_101 : qD 14 101 (.getstatic 84) 3 104 ∧ cS[4]? = some ("CELL_LEAST", (cS.getD 4 ("", [])).2) ∧ inN 560 (.fieldLinkNest (mN 14).cls 84 RX10 "CELL_LEAST" "[I" "OneWindow") := by decide +kernel
theorem q14_104 : qD 14 104 (.getstatic 87) 3 107 ∧ cS[5]? = some ("CELL_MOST", (cS.getD 5 ("", [])).2) ∧ inN 562 (.fieldLinkNest (mN 14).cls 87 RX10 "CELL_MOST" "[I" "OneWindow") := by decide +kernel
theorem q14_107 : qD 14 107 (.aload_n 0) 1 108 ∧ ((0 : Fin 4) : Nat) = 0 := by decide +kernel
theorem q14_108 : qG 14 108 15 111 3 1 174 2 := by decide +kernel
theorem q14_111 : qD 14 111 (.iload_n 3) 1 112 ∧ ((3 : Fin 4) : Nat) = 3 := by decide +kernel
theorem q14_112 : qD 14 112 (.invokevirtual 75) 3 115 ∧ qI 14 75 15 445 := by decide +kernel
theorem q14_115 : qJ 14 115 (.goto 77) 118 (77) 192 := by decide +kernel
theorem q14_118 : qD 14 118 (.iload_n 2) 1 119 ∧ ((2 : Fin 4) : Nat) = 2 := by decide +kernel
theorem q14_119 : qD 14 119 (.bipush 118) 2 121 ∧ (Int8.ofInt (118)).toInt32 = (118 : Int32) := by decide +kernel
theorem q14_121 : qJ 14 121 (.if_icmp .ne 67) 124 (67) 188 := by decide +kernel
theorem q14_124 : qD 14 124 (.aload_n 0) 1 125 ∧ ((0 : Fin 4) : Nat) = 0 := by decide +kernel
theorem q14_125 : qG 14 125 25 128 3 4 180 0 := by decide +kernel
theorem q14_128 : qD 14 128 (.bipush 6) 2 130 ∧ (Int8.ofInt (6)).toInt32 = (6 : Int32) := by decide +kernel
theorem q14_130 : qJ 14 130 (.if_icmp .ge 58) 133 (58) 188 := by decide +kernel
theorem q14_133 : qD 14 133 (.aload_n 0) 1 134 ∧ ((0 : Fin 4) : Nat) = 0 := by decide +kernel
theorem q14_134 : qG 14 134 25 137 3 4 180 0 := by decide +kernel
theorem q14_137 : qD 14 137 (.iconst 2) 1 138 ∧ Int32.ofInt (2) = (2 : Int32) := by decide +kernel
theorem q14_138 : qD 14 138 (.imul) 1 139 := by decide +kernel
theorem q14_139 : qD 14 139 (.istore_n 3) 1 140 ∧ ((3 : Fin 4) : Nat) = 3 ∧ 3 < mL 14 := by decide +kernel
theorem q14_140 : qD 14 140 (.getstatic 90) 3 143 ∧ cS[6]? = some ("EVENT_USUAL", (cS.getD 6 ("", [])).2) ∧ inN 564 (.fieldLinkNest (mN 14).cls 90 RX10 "EVENT_USUAL" "[I" "OneWindow") := by decide +kernel
theorem q14_143 : qD 14 143 (.iconst 0) 1 144 ∧ Int32.ofInt (0) = (0 : Int32) := by decide +kernel
theorem q14_144 : qD 14 144 (.aload_n 0) 1 145 ∧ ((0 : Fin 4) : Nat) = 0 := by decide +kernel
theorem q14_145 : qG 14 145 18 148 3 2 175 2 := by decide +kernel
theorem q14_148 : qD 14 148 (.iload_n 3) 1 149 ∧ ((3 : Fin 4) : Nat) = 3 := by decide +kernel
theorem q14_149 : qD 14 149 (.iconst 2) 1 150 ∧ Int32.ofInt (2) = (2 : Int32) := by decide +kernel
theorem q14_150 : qD 14 150 (.invokestatic 35) 3 153 ∧ inG 421 (.methodLink (mN 14).cls 35 arraycopyName) := by decide +kernel
theorem q14_153 : qD 14 153 (.aload_n 0) 1 154 ∧ ((0 : Fin 4) : Nat) = 0 := by decide +kernel
theorem q14_154 : qD 14 154 (.dup) 1 155 := by decide +kernel
theorem q14_155 : qG 14 155 25 158 3 4 180 0 := by decide +kernel
theorem q14_158 : qD 14 158 (.iconst 1) 1 159 ∧ Int32.ofInt (1) = (1 : Int32) := by decide +kernel
theorem q14_159 : qD 14 159 (.iadd) 1 160 := by decide +kernel
theorem q14_160 : qP 14 160 25 163 3 4 180 0 := by decide +kernel
theorem q14_163 : qD 14 163 (.aload_n 1) 1 164 ∧ ((1 : Fin 4) : Nat) = 1 := by decide +kernel
theorem q14_164 : qD 14 164 (.invokevirtual 64) 3 167 ∧ qI 14 64 70 436 := by decide +kernel
theorem q14_167 : qD 14 167 (.aload_n 0) 1 168 ∧ ((0 : Fin 4) : Nat) = 0 := by decide +kernel
theorem q14_168 : qD 14 168 (.aload_n 1) 1 169 ∧ ((1 : Fin 4) : Nat) = 1 := by decide +kernel
theorem q14_169 : qD 14 169 (.ldc 93) 2 171 ∧ cR[2]? = some ((mN 14).cls, 93, "np", 2) := by decide +kernel
theorem q14_171 : qD 14 171 (.getstatic 95) 3 174 ∧ cS[7]? = some ("EVENT_LEAST", (cS.getD 7 ("", [])).2) ∧ inN 567 (.fieldLinkNest (mN 14).cls 95 RX10 "EVENT_LEAST" "[I" "OneWindow") := by decide +kernel
theorem q14_174 : qD 14 174 (.getstatic 98) 3 177 ∧ cS[8]? = some ("EVENT_MOST", (cS.getD 8 ("", [])).2) ∧ inN 569 (.fieldLinkNest (mN 14).cls 98 RX10 "EVENT_MOST" "[I" "OneWindow") := by decide +kernel
theorem q14_177 : qD 14 177 (.aload_n 0) 1 178 ∧ ((0 : Fin 4) : Nat) = 0 := by decide +kernel
theorem q14_178 : qG 14 178 18 181 3 2 175 2 := by decide +kernel
theorem q14_181 : qD 14 181 (.iload_n 3) 1 182 ∧ ((3 : Fin 4) : Nat) = 3 := by decide +kernel
theorem q14_182 : qD 14 182 (.invokevirtual 75) 3 185 ∧ qI 14 75 15 445 := by decide +kernel
theorem q14_185 : qJ 14 185 (.goto 7) 188 (7) 192 := by decide +kernel
theorem q14_188 : qD 14 188 (.aload_n 1) 1 189 ∧ ((1 : Fin 4) : Nat) = 1 := by decide +kernel
theorem q14_189 : qD 14 189 (.invokevirtual 58) 3 192 ∧ qI 14 58 74 541 := by decide +kernel
theorem q14_192 : qD 14 192 (.return_) 1 193 ∧ mR 14 = none := by decide +kernel
theorem q15_0 : qD 15 0 (.iconst 0) 1 1 ∧ Int32.ofInt (0) = (0 : Int32) := by decide +kernel
theorem q15_1 : qD 15 1 (.istore 7) 2 3 ∧ 7 < mL 15 := by decide +kernel
theorem q15_3 : qD 15 3 (.iconst 0) 1 4 ∧ Int32.ofInt (0) = (0 : Int32) := by decide +kernel
theorem q15_4 : qD 15 4 (.istore 8) 2 6 ∧ 8 < mL 15 := by decide +kernel
theorem q15_6 : qD 15 6 (.iload 8) 2 8 := by decide +kernel
theorem q15_8 : qD 15 8 (.aload_n 2) 1 9 ∧ ((2 : Fin 4) : Nat) = 2 := by decide +kernel
theorem q15_9 : qD 15 9 (.invokevirtual 101) 3 12 ∧ inG 449 (.methodLink (mN 15).cls 101 (mN 301)) ∧ mL 301 ≤ 41 ∧ (mN 301).cls = "java/lang/String" := by decide +kernel
theorem q15_12 : qJ 15 12 (.if_icmp .gt 74) 15 (74) 86 := by decide +kernel
theorem q15_15 : qD 15 15 (.aload_n 1) 1 16 ∧ ((1 : Fin 4) : Nat) = 1 := by decide +kernel
theorem q15_16 : qD 15 16 (.aload_n 2) 1 17 ∧ ((2 : Fin 4) : Nat) = 2 := by decide +kernel
theorem q15_17 : qD 15 17 (.invokevirtual 106) 3 20 ∧ qI 15 106 76 459 := by decide +kernel
theorem q15_20 : qD 15 20 (.istore 9) 2 22 ∧ 9 < mL 15 := by decide +kernel
theorem q15_22 : qD 15 22 (.iload 9) 2 24 := by decide +kernel
theorem q15_24 : qD 15 24 (.iconst (-1)) 1 25 ∧ Int32.ofInt (-1) = (-1 : Int32) := by decide +kernel
theorem q15_25 : qJ 15 25 (.if_icmp .ne 4) 28 (4) 29 := by decide +kernel
theorem q15_28 : qD 15 28 (.return_) 1 29 ∧ mR 15 = none := by decide +kernel
theorem q15_29 : qD 15 29 (.iload 7) 2 31 := by decide +kernel
theorem q15_31 : qD 15 31 (.iload 9) 2 33 := by decide +kernel
theorem q15_33 : qD 15 33 (.ishr) 1 34 := by decide +kernel
theorem q15_34 : qD 15 34 (.iconst 1) 1 35 ∧ Int32.ofInt (1) = (1 : Int32) := by decide +kernel
theorem q15_35 : qD 15 35 (.iand) 1 36 := by decide +kernel
theorem q15_36 : qD 15 36 (.iconst 1) 1 37 ∧ Int32.ofInt (1) = (1 : Int32) := by decide +kernel
theorem q15_37 : qJ 15 37 (.if_icmp .ne 8) 40 (8) 45 := by decide +kernel
theorem q15_40 : qD 15 40 (.aload_n 1) 1 41 ∧ ((1 : Fin 4) : Nat) = 1 := by decide +kernel
theorem q15_41 : qD 15 41 (.invokevirtual 58) 3 44 ∧ qI 15 58 74 541 := by decide +kernel
theorem q15_44 : qD 15 44 (.return_) 1 45 ∧ mR 15 = none := by decide +kernel
theorem q15_45 : qD 15 45 (.iload 7) 2 47 := by decide +kernel
theorem q15_47 : qD 15 47 (.iconst 1) 1 48 ∧ Int32.ofInt (1) = (1 : Int32) := by decide +kernel
theorem q15_48 : qD 15 48 (.iload 9) 2 50 := by decide +kernel
theorem q15_50 : qD 15 50 (.ishl) 1 51 := by decide +kernel
theorem q15_51 : qD 15 51 (.ior) 1 52 := by decide +kernel
theorem q15_52 : qD 15 52 (.istore 7) 2 54 ∧ 7 < mL 15 := by decide +kernel
theorem q15_54 : qD 15 54 (.aload_n 1) 1 55 ∧ ((1 : Fin 4) : Nat) = 1 := by decide +kernel
theorem q15_55 : qD 15 55 (.invokevirtual 64) 3 58 ∧ qI 15 64 70 436 := by decide +kernel
theorem q15_58 : qD 15 58 (.aload 5) 2 60 := by decide +kernel
theorem q15_60 : qD 15 60 (.iload 6) 2 62 := by decide +kernel
theorem q15_62 : qD 15 62 (.iload 9) 2 64 := by decide +kernel
theorem q15_64 : qD 15 64 (.iadd) 1 65 := by decide +kernel
theorem q15_65 : qD 15 65 (.aload_n 1) 1 66 ∧ ((1 : Fin 4) : Nat) = 1 := by decide +kernel
theorem q15_66 : qD 15 66 (.iconst 2) 1 67 ∧ Int32.ofInt (2) = (2 : Int32) := by decide +kernel
theorem q15_67 : qD 15 67 (.aload_n 3) 1 68 ∧ ((3 : Fin 4) : Nat) = 3 := by decide +kernel
theorem q15_68 : qD 15 68 (.iload 9) 2 70 := by decide +kernel
theorem q15_70 : qD 15 70 (.iaload) 1 71 := by decide +kernel
theorem q15_71 : qD 15 71 (.aload 4) 2 73 := by decide +kernel
theorem q15_73 : qD 15 73 (.iload 9) 2 75 := by decide +kernel
theorem q15_75 : qD 15 75 (.iaload) 1 76 := by decide +kernel
theorem q15_76 : qD 15 76 (.invokevirtual 110) 3 79 ∧ qI 15 110 78 549 := by decide +kernel
theorem q15_79 : qD 15 79 (.iastore) 1 80 := by decide +kernel
theorem q15_80 : qD 15 80 (.iinc 8 1) 3 83 ∧ 8 < mL 15 ∧ Int32.ofInt (1) = (1 : Int32) := by decide +kernel
theorem q15_83 : qJ 15 83 (.goto (-77)) 86 (-77) 6 := by decide +kernel
theorem q15_86 : qD 15 86 (.return_) 1 87 ∧ mR 15 = none := by decide +kernel
theorem q16_0 : qD 16 0 (.aload_n 0) 1 1 ∧ ((0 : Fin 4) : Nat) = 0 := by decide +kernel
theorem q16_1 : qG 16 1 9 4 3 0 172 2 := by decide +kernel
theorem q16_4 : qD 16 4 (.iconst 0) 1 5 ∧ Int32.ofInt (0) = (0 : Int32) := by decide +kernel
theorem q16_5 : qD 16 5 (.iaload) 1 6 := by decide +kernel
theorem q16_6 : qD 16 6 (.ireturn) 1 7 ∧ mR 16 = some .int := by decide +kernel
theorem q17_0 : qD 17 0 (.aload_n 0) 1 1 ∧ ((0 : Fin 4) : Nat) = 0 := by decide +kernel
theorem q17_1 : qG 17 1 9 4 3 0 172 2 := by decide +kernel
theorem q17_4 : qD 17 4 (.iconst 1) 1 5 ∧ Int32.ofInt (1) = (1 : Int32) := by decide +kernel
theorem q17_5 : qD 17 5 (.iaload) 1 6 := by decide +kernel
theorem q17_6 : qD 17 6 (.ireturn) 1 7 ∧ mR 17 = some .int := by decide +kernel
theorem q18_0 : qD 18 0 (.aload_n 0) 1 1 ∧ ((0 : Fin 4) : Nat) = 0 := by decide +kernel
theorem q18_1 : qG 18 1 9 4 3 0 172 2 := by decide +kernel
theorem q18_4 : qD 18 4 (.iconst 2) 1 5 ∧ Int32.ofInt (2) = (2 : Int32) := by decide +kernel
theorem q18_5 : qD 18 5 (.iaload) 1 6 := by decide +kernel
theorem q18_6 : qD 18 6 (.ireturn) 1 7 ∧ mR 18 = some .int := by decide +kernel
theorem q19_0 : qD 19 0 (.aload_n 0) 1 1 ∧ ((0 : Fin 4) : Nat) = 0 := by decide +kernel
theorem q19_1 : qG 19 1 9 4 3 0 172 2 := by decide +kernel
theorem q19_4 : qD 19 4 (.iconst 3) 1 5 ∧ Int32.ofInt (3) = (3 : Int32) := by decide +kernel
theorem q19_5 : qD 19 5 (.iaload) 1 6 := by decide +kernel
theorem q19_6 : qD 19 6 (.ireturn) 1 7 ∧ mR 19 = some .int := by decide +kernel
theorem q20_0 : qD 20 0 (.aload_n 0) 1 1 ∧ ((0 : Fin 4) : Nat) = 0 := by decide +kernel
theorem q20_1 : qG 20 1 15 4 3 1 174 2 := by decide +kernel
theorem q20_4 : qD 20 4 (.iload_n 1) 1 5 ∧ ((1 : Fin 4) : Nat) = 1 := by decide +kernel
theorem q20_5 : qD 20 5 (.iconst 5) 1 6 ∧ Int32.ofInt (5) = (5 : Int32) := by decide +kernel
theorem q20_6 : qD 20 6 (.imul) 1 7 := by decide +kernel
theorem q20_7 : qD 20 7 (.iaload) 1 8 := by decide +kernel
theorem q20_8 : qD 20 8 (.ireturn) 1 9 ∧ mR 20 = some .int := by decide +kernel
theorem q21_0 : qD 21 0 (.aload_n 0) 1 1 ∧ ((0 : Fin 4) : Nat) = 0 := by decide +kernel
theorem q21_1 : qG 21 1 15 4 3 1 174 2 := by decide +kernel
theorem q21_4 : qD 21 4 (.iload_n 1) 1 5 ∧ ((1 : Fin 4) : Nat) = 1 := by decide +kernel
theorem q21_5 : qD 21 5 (.iconst 5) 1 6 ∧ Int32.ofInt (5) = (5 : Int32) := by decide +kernel
theorem q21_6 : qD 21 6 (.imul) 1 7 := by decide +kernel
theorem q21_7 : qD 21 7 (.iconst 1) 1 8 ∧ Int32.ofInt (1) = (1 : Int32) := by decide +kernel
theorem q21_8 : qD 21 8 (.iadd) 1 9 := by decide +kernel
theorem q21_9 : qD 21 9 (.iaload) 1 10 := by decide +kernel
theorem q21_10 : qD 21 10 (.ireturn) 1 11 ∧ mR 21 = some .int := by decide +kernel
theorem q22_0 : qD 22 0 (.aload_n 0) 1 1 ∧ ((0 : Fin 4) : Nat) = 0 := by decide +kernel
theorem q22_1 : qG 22 1 15 4 3 1 174 2 := by decide +kernel
theorem q22_4 : qD 22 4 (.iload_n 1) 1 5 ∧ ((1 : Fin 4) : Nat) = 1 := by decide +kernel
theorem q22_5 : qD 22 5 (.iconst 5) 1 6 ∧ Int32.ofInt (5) = (5 : Int32) := by decide +kernel
theorem q22_6 : qD 22 6 (.imul) 1 7 := by decide +kernel
theorem q22_7 : qD 22 7 (.iconst 2) 1 8 ∧ Int32.ofInt (2) = (2 : Int32) := by decide +kernel
theorem q22_8 : qD 22 8 (.iadd) 1 9 := by decide +kernel
theorem q22_9 : qD 22 9 (.iaload) 1 10 := by decide +kernel
theorem q22_10 : qD 22 10 (.ireturn) 1 11 ∧ mR 22 = some .int := by decide +kernel
theorem q23_0 : qD 23 0 (.aload_n 0) 1 1 ∧ ((0 : Fin 4) : Nat) = 0 := by decide +kernel
theorem q23_1 : qG 23 1 15 4 3 1 174 2 := by decide +kernel
theorem q23_4 : qD 23 4 (.iload_n 1) 1 5 ∧ ((1 : Fin 4) : Nat) = 1 := by decide +kernel
theorem q23_5 : qD 23 5 (.iconst 5) 1 6 ∧ Int32.ofInt (5) = (5 : Int32) := by decide +kernel
theorem q23_6 : qD 23 6 (.imul) 1 7 := by decide +kernel
theorem q23_7 : qD 23 7 (.iconst 3) 1 8 ∧ Int32.ofInt (3) = (3 : Int32) := by decide +kernel
theorem q23_8 : qD 23 8 (.iadd) 1 9 := by decide +kernel
theorem q23_9 : qD 23 9 (.iaload) 1 10 := by decide +kernel
theorem q23_10 : qD 23 10 (.istore_n 2) 1 11 ∧ ((2 : Fin 4) : Nat) = 2 ∧ 2 < mL 23 := by decide +kernel
theorem q23_11 : qD 23 11 (.iload_n 2) 1 12 ∧ ((2 : Fin 4) : Nat) = 2 := by decide +kernel
theorem q23_12 : qD 23 12 (.aload_n 0) 1 13 ∧ ((0 : Fin 4) : Nat) = 0 := by decide +kernel
theorem q23_13 : qG 23 13 25 16 3 4 180 0 := by decide +kernel
theorem q23_16 : qJ 23 16 (.if_icmp .ge 7) 19 (7) 23 := by decide +kernel
theorem q23_19 : qD 23 19 (.iload_n 2) 1 20 ∧ ((2 : Fin 4) : Nat) = 2 := by decide +kernel
theorem q23_20 : qJ 23 20 (.goto 4) 23 (4) 24 := by decide +kernel
theorem q23_23 : qD 23 23 (.iconst (-1)) 1 24 ∧ Int32.ofInt (-1) = (-1 : Int32) := by decide +kernel
theorem q23_24 : qD 23 24 (.ireturn) 1 25 ∧ mR 23 = some .int := by decide +kernel
theorem q24_0 : qD 24 0 (.aload_n 0) 1 1 ∧ ((0 : Fin 4) : Nat) = 0 := by decide +kernel
theorem q24_1 : qG 24 1 15 4 3 1 174 2 := by decide +kernel
theorem q24_4 : qD 24 4 (.iload_n 1) 1 5 ∧ ((1 : Fin 4) : Nat) = 1 := by decide +kernel
theorem q24_5 : qD 24 5 (.iconst 5) 1 6 ∧ Int32.ofInt (5) = (5 : Int32) := by decide +kernel
theorem q24_6 : qD 24 6 (.imul) 1 7 := by decide +kernel
theorem q24_7 : qD 24 7 (.iconst 4) 1 8 ∧ Int32.ofInt (4) = (4 : Int32) := by decide +kernel
theorem q24_8 : qD 24 8 (.iadd) 1 9 := by decide +kernel
theorem q24_9 : qD 24 9 (.iaload) 1 10 := by decide +kernel
theorem q24_10 : qD 24 10 (.ireturn) 1 11 ∧ mR 24 = some .int := by decide +kernel
theorem q25_0 : qD 25 0 (.aload_n 0) 1 1 ∧ ((0 : Fin 4) : Nat) = 0 := by decide +kernel
theorem q25_1 : qG 25 1 18 4 3 2 175 2 := by decide +kernel
theorem q25_4 : qD 25 4 (.iload_n 1) 1 5 ∧ ((1 : Fin 4) : Nat) = 1 := by decide +kernel
theorem q25_5 : qD 25 5 (.iconst 2) 1 6 ∧ Int32.ofInt (2) = (2 : Int32) := by decide +kernel
theorem q25_6 : qD 25 6 (.imul) 1 7 := by decide +kernel
theorem q25_7 : qD 25 7 (.iaload) 1 8 := by decide +kernel
theorem q25_8 : qD 25 8 (.ireturn) 1 9 ∧ mR 25 = some .int := by decide +kernel
theorem q26_0 : qD 26 0 (.aload_n 0) 1 1 ∧ ((0 : Fin 4) : Nat) = 0 := by decide +kernel
theorem q26_1 : qG 26 1 18 4 3 2 175 2 := by decide +kernel
theorem q26_4 : qD 26 4 (.iload_n 1) 1 5 ∧ ((1 : Fin 4) : Nat) = 1 := by decide +kernel
theorem q26_5 : qD 26 5 (.iconst 2) 1 6 ∧ Int32.ofInt (2) = (2 : Int32) := by decide +kernel
theorem q26_6 : qD 26 6 (.imul) 1 7 := by decide +kernel
theorem q26_7 : qD 26 7 (.iconst 1) 1 8 ∧ Int32.ofInt (1) = (1 : Int32) := by decide +kernel
theorem q26_8 : qD 26 8 (.iadd) 1 9 := by decide +kernel
theorem q26_9 : qD 26 9 (.iaload) 1 10 := by decide +kernel
theorem q26_10 : qD 26 10 (.ireturn) 1 11 ∧ mR 26 = some .int := by decide +kernel
theorem q27_0 : qD 27 0 (.aload_n 0) 1 1 ∧ ((0 : Fin 4) : Nat) = 0 := by decide +kernel
theorem q27_1 : qD 27 1 (.invokespecial 3) 3 4 ∧ inG 276 (.methodLink (mN 27).cls 3 Lib.objectInit) := by decide +kernel
theorem q27_4 : qD 27 4 (.aload_n 0) 1 5 ∧ ((0 : Fin 4) : Nat) = 0 := by decide +kernel
theorem q27_5 : qD 27 5 (.bipush 7) 2 7 ∧ (Int8.ofInt (7)).toInt32 = (7 : Int32) := by decide +kernel
theorem q27_7 : qD 27 7 (.newarray .int) 2 9 ∧ (100 = 100 ∨ 100 = 101 ∨ 100 = 102 ∨ 100 = 103) ∧ newarray.typeOf .int = kty 100 ∧ inG 165 (.arrayClass (kty 100)) := by decide +kernel
theorem q27_9 : qP 27 9 9 12 4 0 277 2 := by decide +kernel
theorem q27_12 : qD 27 12 (.aload_n 0) 1 13 ∧ ((0 : Fin 4) : Nat) = 0 := by decide +kernel
theorem q27_13 : qD 27 13 (.bipush 7) 2 15 ∧ (Int8.ofInt (7)).toInt32 = (7 : Int32) := by decide +kernel
theorem q27_15 : qD 27 15 (.newarray .int) 2 17 ∧ (100 = 100 ∨ 100 = 101 ∨ 100 = 102 ∨ 100 = 103) ∧ newarray.typeOf .int = kty 100 ∧ inG 165 (.arrayClass (kty 100)) := by decide +kernel
theorem q27_17 : qP 27 17 15 20 4 1 279 2 := by decide +kernel
theorem q27_20 : qD 27 20 (.aload_n 0) 1 21 ∧ ((0 : Fin 4) : Nat) = 0 := by decide +kernel
theorem q27_21 : qD 27 21 (.bipush 6) 2 23 ∧ (Int8.ofInt (6)).toInt32 = (6 : Int32) := by decide +kernel
theorem q27_23 : qD 27 23 (.newarray .int) 2 25 ∧ (100 = 100 ∨ 100 = 101 ∨ 100 = 102 ∨ 100 = 103) ∧ newarray.typeOf .int = kty 100 ∧ inG 165 (.arrayClass (kty 100)) := by decide +kernel
theorem q27_25 : qP 27 25 18 28 4 2 281 2 := by decide +kernel
theorem q27_28 : qD 27 28 (.return_) 1 29 ∧ mR 27 = none := by decide +kernel
theorem q28_0 : qD 28 0 (.aload_n 0) 1 1 ∧ ((0 : Fin 4) : Nat) = 0 := by decide +kernel
theorem q28_1 : qG 28 1 18 4 4 2 281 2 := by decide +kernel
theorem q28_4 : qD 28 4 (.iconst 1) 1 5 ∧ Int32.ofInt (1) = (1 : Int32) := by decide +kernel
theorem q28_5 : qD 28 5 (.aload_n 1) 1 6 ∧ ((1 : Fin 4) : Nat) = 1 := by decide +kernel
theorem q28_6 : qD 28 6 (.iload 4) 2 8 := by decide +kernel
theorem q28_8 : qD 28 8 (.invokevirtual 21) 3 11 ∧ qI 28 21 25 836 := by decide +kernel
theorem q28_11 : qD 28 11 (.iastore) 1 12 := by decide +kernel
theorem q28_12 : qD 28 12 (.aload_n 0) 1 13 ∧ ((0 : Fin 4) : Nat) = 0 := by decide +kernel
theorem q28_13 : qG 28 13 18 16 4 2 281 2 := by decide +kernel
theorem q28_16 : qD 28 16 (.iconst 3) 1 17 ∧ Int32.ofInt (3) = (3 : Int32) := by decide +kernel
theorem q28_17 : qD 28 17 (.iload 4) 2 19 := by decide +kernel
theorem q28_19 : qD 28 19 (.iastore) 1 20 := by decide +kernel
theorem q28_20 : qD 28 20 (.aload_n 0) 1 21 ∧ ((0 : Fin 4) : Nat) = 0 := by decide +kernel
theorem q28_21 : qG 28 21 18 24 4 2 281 2 := by decide +kernel
theorem q28_24 : qD 28 24 (.iconst 4) 1 25 ∧ Int32.ofInt (4) = (4 : Int32) := by decide +kernel
theorem q28_25 : qD 28 25 (.aload_n 2) 1 26 ∧ ((2 : Fin 4) : Nat) = 2 := by decide +kernel
theorem q28_26 : qG 28 26 27 29 7 0 238 2 := by decide +kernel
theorem q28_29 : qD 28 29 (.bipush 32) 2 31 ∧ (Int8.ofInt (32)).toInt32 = (32 : Int32) := by decide +kernel
theorem q28_31 : qD 28 31 (.iaload) 1 32 := by decide +kernel
theorem q28_32 : qD 28 32 (.iastore) 1 33 := by decide +kernel
theorem q28_33 : qD 28 33 (.aload_n 0) 1 34 ∧ ((0 : Fin 4) : Nat) = 0 := by decide +kernel
theorem q28_34 : qG 28 34 18 37 4 2 281 2 := by decide +kernel
theorem q28_37 : qD 28 37 (.iconst 5) 1 38 ∧ Int32.ofInt (5) = (5 : Int32) := by decide +kernel
theorem q28_38 : qD 28 38 (.aload_n 2) 1 39 ∧ ((2 : Fin 4) : Nat) = 2 := by decide +kernel
theorem q28_39 : qG 28 39 27 42 7 0 238 2 := by decide +kernel
theorem q28_42 : qD 28 42 (.bipush 31) 2 44 ∧ (Int8.ofInt (31)).toInt32 = (31 : Int32) := by decide +kernel
theorem q28_44 : qD 28 44 (.iaload) 1 45 := by decide +kernel
theorem q28_45 : qD 28 45 (.iastore) 1 46 := by decide +kernel
theorem q28_46 : qD 28 46 (.aload_n 0) 1 47 ∧ ((0 : Fin 4) : Nat) = 0 := by decide +kernel
theorem q28_47 : qG 28 47 9 50 4 0 277 2 := by decide +kernel
theorem q28_50 : qD 28 50 (.iload 5) 2 52 := by decide +kernel
theorem q28_52 : qD 28 52 (.aload_n 1) 1 53 ∧ ((1 : Fin 4) : Nat) = 1 := by decide +kernel
theorem q28_53 : qD 28 53 (.invokevirtual 32) 3 56 ∧ qI 28 32 17 837 := by decide +kernel
theorem q28_56 : qD 28 56 (.iastore) 1 57 := by decide +kernel
theorem q28_57 : qD 28 57 (.iload 5) 2 59 := by decide +kernel
theorem q28_59 : qD 28 59 (.iconst 1) 1 60 ∧ Int32.ofInt (1) = (1 : Int32) := by decide +kernel
theorem q28_60 : qD 28 60 (.iadd) 1 61 := by decide +kernel
theorem q28_61 : qD 28 61 (.istore 6) 2 63 ∧ 6 < mL 28 := by decide +kernel
theorem q28_63 : qD 28 63 (.iload 6) 2 65 := by decide +kernel
theorem q28_65 : qD 28 65 (.aload_n 1) 1 66 ∧ ((1 : Fin 4) : Nat) = 1 := by decide +kernel
theorem q28_66 : qG 28 66 36 69 3 3 178 0 := by decide +kernel
theorem q28_69 : qJ 28 69 (.if_icmp .ge 55) 72 (55) 124 := by decide +kernel
theorem q28_72 : qD 28 72 (.aload_n 1) 1 73 ∧ ((1 : Fin 4) : Nat) = 1 := by decide +kernel
theorem q28_73 : qD 28 73 (.aload_n 2) 1 74 ∧ ((2 : Fin 4) : Nat) = 2 := by decide +kernel
theorem q28_74 : qG 28 74 27 77 7 0 238 2 := by decide +kernel
theorem q28_77 : qD 28 77 (.iconst 0) 1 78 ∧ Int32.ofInt (0) = (0 : Int32) := by decide +kernel
theorem q28_78 : qD 28 78 (.iload 6) 2 80 := by decide +kernel
theorem q28_80 : qD 28 80 (.iadd) 1 81 := by decide +kernel
theorem q28_81 : qD 28 81 (.iaload) 1 82 := by decide +kernel
theorem q28_82 : qD 28 82 (.invokevirtual 40) 3 85 ∧ qI 28 40 21 841 := by decide +kernel
theorem q28_85 : qD 28 85 (.istore 7) 2 87 ∧ 7 < mL 28 := by decide +kernel
theorem q28_87 : qD 28 87 (.aload_n 0) 1 88 ∧ ((0 : Fin 4) : Nat) = 0 := by decide +kernel
theorem q28_88 : qG 28 88 9 91 4 0 277 2 := by decide +kernel
theorem q28_91 : qD 28 91 (.iload 6) 2 93 := by decide +kernel
theorem q28_93 : qD 28 93 (.aload_n 0) 1 94 ∧ ((0 : Fin 4) : Nat) = 0 := by decide +kernel
theorem q28_94 : qD 28 94 (.aload_n 0) 1 95 ∧ ((0 : Fin 4) : Nat) = 0 := by decide +kernel
theorem q28_95 : qG 28 95 9 98 4 0 277 2 := by decide +kernel
theorem q28_98 : qD 28 98 (.iload 6) 2 100 := by decide +kernel
theorem q28_100 : qD 28 100 (.iconst 1) 1 101 ∧ Int32.ofInt (1) = (1 : Int32) := by decide +kernel
theorem q28_101 : qD 28 101 (.isub) 1 102 := by decide +kernel
theorem q28_102 : qD 28 102 (.iaload) 1 103 := by decide +kernel
theorem q28_103 : qD 28 103 (.aload_n 1) 1 104 ∧ ((1 : Fin 4) : Nat) = 1 := by decide +kernel
theorem q28_104 : qD 28 104 (.iload 6) 2 106 := by decide +kernel
theorem q28_106 : qD 28 106 (.iconst 1) 1 107 ∧ Int32.ofInt (1) = (1 : Int32) := by decide +kernel
theorem q28_107 : qD 28 107 (.isub) 1 108 := by decide +kernel
theorem q28_108 : qD 28 108 (.invokevirtual 43) 3 111 ∧ qI 28 43 20 845 := by decide +kernel
theorem q28_111 : qD 28 111 (.iload 7) 2 113 := by decide +kernel
theorem q28_113 : qD 28 113 (.aload_n 3) 1 114 ∧ ((3 : Fin 4) : Nat) = 3 := by decide +kernel
theorem q28_114 : qD 28 114 (.invokevirtual 46) 3 117 ∧ qI 28 46 29 846 := by decide +kernel
theorem q28_117 : qD 28 117 (.iastore) 1 118 := by decide +kernel
theorem q28_118 : qD 28 118 (.iinc 6 1) 3 121 ∧ 6 < mL 28 ∧ Int32.ofInt (1) = (1 : Int32) := by decide +kernel
theorem q28_121 : qJ 28 121 (.goto (-58)) 124 (-58) 63 := by decide +kernel
theorem q28_124 : qD 28 124 (.iload 5) 2 126 := by decide +kernel
theorem q28_126 : qD 28 126 (.iconst 1) 1 127 ∧ Int32.ofInt (1) = (1 : Int32) := by decide +kernel
theorem q28_127 : qD 28 127 (.isub) 1 128 := by decide +kernel
theorem q28_128 : qD 28 128 (.istore 6) 2 130 ∧ 6 < mL 28 := by decide +kernel
theorem q28_130 : qD 28 130 (.iload 6) 2 132 := by decide +kernel
theorem q28_132 : qJ 28 132 (.ifCond .lt 53) 135 (53) 185 := by decide +kernel
theorem q28_135 : qD 28 135 (.aload_n 1) 1 136 ∧ ((1 : Fin 4) : Nat) = 1 := by decide +kernel
theorem q28_136 : qD 28 136 (.aload_n 2) 1 137 ∧ ((2 : Fin 4) : Nat) = 2 := by decide +kernel
theorem q28_137 : qG 28 137 27 140 7 0 238 2 := by decide +kernel
theorem q28_140 : qD 28 140 (.iconst 0) 1 141 ∧ Int32.ofInt (0) = (0 : Int32) := by decide +kernel
theorem q28_141 : qD 28 141 (.iload 6) 2 143 := by decide +kernel
theorem q28_143 : qD 28 143 (.iadd) 1 144 := by decide +kernel
theorem q28_144 : qD 28 144 (.iaload) 1 145 := by decide +kernel
theorem q28_145 : qD 28 145 (.invokevirtual 40) 3 148 ∧ qI 28 40 21 841 := by decide +kernel
theorem q28_148 : qD 28 148 (.istore 7) 2 150 ∧ 7 < mL 28 := by decide +kernel
theorem q28_150 : qD 28 150 (.aload_n 0) 1 151 ∧ ((0 : Fin 4) : Nat) = 0 := by decide +kernel
theorem q28_151 : qG 28 151 9 154 4 0 277 2 := by decide +kernel
theorem q28_154 : qD 28 154 (.iload 6) 2 156 := by decide +kernel
theorem q28_156 : qD 28 156 (.aload_n 0) 1 157 ∧ ((0 : Fin 4) : Nat) = 0 := by decide +kernel
theorem q28_157 : qD 28 157 (.aload_n 0) 1 158 ∧ ((0 : Fin 4) : Nat) = 0 := by decide +kernel
theorem q28_158 : qG 28 158 9 161 4 0 277 2 := by decide +kernel
theorem q28_161 : qD 28 161 (.iload 6) 2 163 := by decide +kernel
theorem q28_163 : qD 28 163 (.iconst 1) 1 164 ∧ Int32.ofInt (1) = (1 : Int32) := by decide +kernel
theorem q28_164 : qD 28 164 (.iadd) 1 165 := by decide +kernel
theorem q28_165 : qD 28 165 (.iaload) 1 166 := by decide +kernel
theorem q28_166 : qD 28 166 (.aload_n 1) 1 167 ∧ ((1 : Fin 4) : Nat) = 1 := by decide +kernel
theorem q28_167 : qD 28 167 (.iload 6) 2 169 := by decide +kernel
theorem q28_169 : qD 28 169 (.invokevirtual 43) 3 172 ∧ qI 28 43 20 845 := by decide +kernel
theorem q28_172 : qD 28 172 (.iload 7) 2 174 := by decide +kernel
theorem q28_174 : qD 28 174 (.aload_n 3) 1 175 ∧ ((3 : Fin 4) : Nat) = 3 := by decide +kernel
theorem q28_175 : qD 28 175 (.invokevirtual 46) 3 178 ∧ qI 28 46 29 846 := by decide +kernel
theorem q28_178 : qD 28 178 (.iastore) 1 179 := by decide +kernel
theorem q28_179 : qD 28 179 (.iinc 6 (-1)) 3 182 ∧ 6 < mL 28 ∧ Int32.ofInt (-1) = (-1 : Int32) := by decide +kernel
theorem q28_182 : qJ 28 182 (.goto (-52)) 185 (-52) 130 := by decide +kernel
theorem q28_185 : qD 28 185 (.return_) 1 186 ∧ mR 28 = none := by decide +kernel
theorem q29_0 : qD 29 0 (.iload_n 1) 1 1 ∧ ((1 : Fin 4) : Nat) = 1 := by decide +kernel
theorem q29_1 : qJ 29 1 (.ifCond .gt 5) 4 (5) 6 := by decide +kernel
theorem q29_4 : qD 29 4 (.iconst 0) 1 5 ∧ Int32.ofInt (0) = (0 : Int32) := by decide +kernel
theorem q29_5 : qD 29 5 (.ireturn) 1 6 ∧ mR 29 = some .int := by decide +kernel
theorem q29_6 : qD 29 6 (.iload_n 2) 1 7 ∧ ((2 : Fin 4) : Nat) = 2 := by decide +kernel
theorem q29_7 : qD 29 7 (.istore 5) 2 9 ∧ 5 < mL 29 := by decide +kernel
theorem q29_9 : qD 29 9 (.aload 4) 2 11 := by decide +kernel
theorem q29_11 : qJ 29 11 (.ifnull 37) 14 (37) 48 := by decide +kernel
theorem q29_14 : qD 29 14 (.aload_n 0) 1 15 ∧ ((0 : Fin 4) : Nat) = 0 := by decide +kernel
theorem q29_15 : qG 29 15 18 18 4 2 281 2 := by decide +kernel
theorem q29_18 : qD 29 18 (.iconst 0) 1 19 ∧ Int32.ofInt (0) = (0 : Int32) := by decide +kernel
theorem q29_19 : qD 29 19 (.iload_n 2) 1 20 ∧ ((2 : Fin 4) : Nat) = 2 := by decide +kernel
theorem q29_20 : qD 29 20 (.iastore) 1 21 := by decide +kernel
theorem q29_21 : qD 29 21 (.aload_n 0) 1 22 ∧ ((0 : Fin 4) : Nat) = 0 := by decide +kernel
theorem q29_22 : qG 29 22 18 25 4 2 281 2 := by decide +kernel
theorem q29_25 : qD 29 25 (.iconst 2) 1 26 ∧ Int32.ofInt (2) = (2 : Int32) := by decide +kernel
theorem q29_26 : qD 29 26 (.iload_n 3) 1 27 ∧ ((3 : Fin 4) : Nat) = 3 := by decide +kernel
theorem q29_27 : qD 29 27 (.iastore) 1 28 := by decide +kernel
theorem q29_28 : qD 29 28 (.iconst 0) 1 29 ∧ Int32.ofInt (0) = (0 : Int32) := by decide +kernel
theorem q29_29 : qD 29 29 (.bipush 99) 2 31 ∧ (Int8.ofInt (99)).toInt32 = (99 : Int32) := by decide +kernel
theorem q29_31 : qD 29 31 (.aload 4) 2 33 := by decide +kernel
theorem q29_33 : qD 29 33 (.aload_n 0) 1 34 ∧ ((0 : Fin 4) : Nat) = 0 := by decide +kernel
theorem q29_34 : qG 29 34 18 37 4 2 281 2 := by decide +kernel
theorem q29_37 : qD 29 37 (.invokevirtual 50) 3 40 ∧ qI 29 50 45 850 := by decide +kernel
theorem q29_40 : qD 29 40 (.invokestatic 56) 3 43 ∧ inG 873 (.methodLink (mN 29).cls 56 Lib.Math.min.name) := by decide +kernel
theorem q29_43 : qD 29 43 (.invokestatic 62) 3 46 ∧ inG 874 (.methodLink (mN 29).cls 62 Lib.Math.max.name) := by decide +kernel
theorem q29_46 : qD 29 46 (.istore 5) 2 48 ∧ 5 < mL 29 := by decide +kernel
theorem q29_48 : qD 29 48 (.iconst 0) 1 49 ∧ Int32.ofInt (0) = (0 : Int32) := by decide +kernel
theorem q29_49 : qD 29 49 (.iload_n 1) 1 50 ∧ ((1 : Fin 4) : Nat) = 1 := by decide +kernel
theorem q29_50 : qD 29 50 (.iload 5) 2 52 := by decide +kernel
theorem q29_52 : qD 29 52 (.isub) 1 53 := by decide +kernel
theorem q29_53 : qD 29 53 (.invokestatic 62) 3 56 ∧ inG 874 (.methodLink (mN 29).cls 62 Lib.Math.max.name) := by decide +kernel
theorem q29_56 : qD 29 56 (.ireturn) 1 57 ∧ mR 29 = some .int := by decide +kernel
theorem q30_0 : qD 30 0 (.iconst 0) 1 1 ∧ Int32.ofInt (0) = (0 : Int32) := by decide +kernel
theorem q30_1 : qD 30 1 (.istore 4) 2 3 ∧ 4 < mL 30 := by decide +kernel
theorem q30_3 : qD 30 3 (.iconst 0) 1 4 ∧ Int32.ofInt (0) = (0 : Int32) := by decide +kernel
theorem q30_4 : qD 30 4 (.istore 5) 2 6 ∧ 5 < mL 30 := by decide +kernel
theorem q30_6 : qD 30 6 (.iload 5) 2 8 := by decide +kernel
theorem q30_8 : qD 30 8 (.aload_n 1) 1 9 ∧ ((1 : Fin 4) : Nat) = 1 := by decide +kernel
theorem q30_9 : qG 30 9 36 12 3 3 178 0 := by decide +kernel
theorem q30_12 : qJ 30 12 (.if_icmp .ge 41) 15 (41) 53 := by decide +kernel
theorem q30_15 : qD 30 15 (.iload 5) 2 17 := by decide +kernel
theorem q30_17 : qD 30 17 (.iload_n 3) 1 18 ∧ ((3 : Fin 4) : Nat) = 3 := by decide +kernel
theorem q30_18 : qJ 30 18 (.if_icmp .eq 29) 21 (29) 47 := by decide +kernel
theorem q30_21 : qD 30 21 (.aload_n 0) 1 22 ∧ ((0 : Fin 4) : Nat) = 0 := by decide +kernel
theorem q30_22 : qG 30 22 9 25 4 0 277 2 := by decide +kernel
theorem q30_25 : qD 30 25 (.iload 5) 2 27 := by decide +kernel
theorem q30_27 : qD 30 27 (.iaload) 1 28 := by decide +kernel
theorem q30_28 : qJ 30 28 (.ifCond .le 19) 31 (19) 47 := by decide +kernel
theorem q30_31 : qD 30 31 (.iload 4) 2 33 := by decide +kernel
theorem q30_33 : qD 30 33 (.iconst 1) 1 34 ∧ Int32.ofInt (1) = (1 : Int32) := by decide +kernel
theorem q30_34 : qD 30 34 (.aload_n 2) 1 35 ∧ ((2 : Fin 4) : Nat) = 2 := by decide +kernel
theorem q30_35 : qG 30 35 27 38 7 0 238 2 := by decide +kernel
theorem q30_38 : qD 30 38 (.iconst 0) 1 39 ∧ Int32.ofInt (0) = (0 : Int32) := by decide +kernel
theorem q30_39 : qD 30 39 (.iload 5) 2 41 := by decide +kernel
theorem q30_41 : qD 30 41 (.iadd) 1 42 := by decide +kernel
theorem q30_42 : qD 30 42 (.iaload) 1 43 := by decide +kernel
theorem q30_43 : qD 30 43 (.ishl) 1 44 := by decide +kernel
theorem q30_44 : qD 30 44 (.ior) 1 45 := by decide +kernel
theorem q30_45 : qD 30 45 (.istore 4) 2 47 ∧ 4 < mL 30 := by decide +kernel
theorem q30_47 : qD 30 47 (.iinc 5 1) 3 50 ∧ 5 < mL 30 ∧ Int32.ofInt (1) = (1 : Int32) := by decide +kernel
theorem q30_50 : qJ 30 50 (.goto (-44)) 53 (-44) 6 := by decide +kernel
theorem q30_53 : qD 30 53 (.iload 4) 2 55 := by decide +kernel
theorem q30_55 : qD 30 55 (.ireturn) 1 56 ∧ mR 30 = some .int := by decide +kernel
theorem q31_0 : qD 31 0 (.aload_n 2) 1 1 ∧ ((2 : Fin 4) : Nat) = 2 := by decide +kernel
theorem q31_1 : qG 31 1 27 4 7 0 238 2 := by decide +kernel
theorem q31_4 : qD 31 4 (.iconst 0) 1 5 ∧ Int32.ofInt (0) = (0 : Int32) := by decide +kernel
theorem q31_5 : qD 31 5 (.aload_n 1) 1 6 ∧ ((1 : Fin 4) : Nat) = 1 := by decide +kernel
theorem q31_6 : qD 31 6 (.invokevirtual 65) 3 9 ∧ qI 31 65 16 824 := by decide +kernel
theorem q31_9 : qD 31 9 (.iadd) 1 10 := by decide +kernel
theorem q31_10 : qD 31 10 (.iaload) 1 11 := by decide +kernel
theorem q31_11 : qD 31 11 (.istore 6) 2 13 ∧ 6 < mL 31 := by decide +kernel
theorem q31_13 : qD 31 13 (.iconst 0) 1 14 ∧ Int32.ofInt (0) = (0 : Int32) := by decide +kernel
theorem q31_14 : qD 31 14 (.istore 7) 2 16 ∧ 7 < mL 31 := by decide +kernel
theorem q31_16 : qD 31 16 (.aload_n 0) 1 17 ∧ ((0 : Fin 4) : Nat) = 0 := by decide +kernel
theorem q31_17 : qG 31 17 15 20 4 1 279 2 := by decide +kernel
theorem q31_20 : qD 31 20 (.iconst 0) 1 21 ∧ Int32.ofInt (0) = (0 : Int32) := by decide +kernel
theorem q31_21 : qD 31 21 (.invokestatic 68) 3 24 ∧ qI 31 68 322 825 := by decide +kernel
theorem q31_24 : qD 31 24 (.iconst 0) 1 25 ∧ Int32.ofInt (0) = (0 : Int32) := by decide +kernel
theorem q31_25 : qD 31 25 (.istore 8) 2 27 ∧ 8 < mL 31 := by decide +kernel
theorem q31_27 : qD 31 27 (.iload 8) 2 29 := by decide +kernel
theorem q31_29 : qD 31 29 (.aload_n 1) 1 30 ∧ ((1 : Fin 4) : Nat) = 1 := by decide +kernel
theorem q31_30 : qG 31 30 74 33 3 4 182 0 := by decide +kernel
theorem q31_33 : qJ 31 33 (.if_icmp .ge 124) 36 (124) 157 := by decide +kernel
theorem q31_36 : qD 31 36 (.aload_n 2) 1 37 ∧ ((2 : Fin 4) : Nat) = 2 := by decide +kernel
theorem q31_37 : qD 31 37 (.iload 8) 2 39 := by decide +kernel
theorem q31_39 : qD 31 39 (.invokevirtual 77) 3 42 ∧ qI 31 77 56 826 := by decide +kernel
theorem q31_42 : qJ 31 42 (.ifCond .eq 18) 45 (18) 60 := by decide +kernel
theorem q31_45 : qD 31 45 (.aload_n 1) 1 46 ∧ ((1 : Fin 4) : Nat) = 1 := by decide +kernel
theorem q31_46 : qD 31 46 (.iload 6) 2 48 := by decide +kernel
theorem q31_48 : qD 31 48 (.invokevirtual 81) 3 51 ∧ qI 31 81 23 827 := by decide +kernel
theorem q31_51 : qD 31 51 (.iload 8) 2 53 := by decide +kernel
theorem q31_53 : qJ 31 53 (.if_icmp .eq 7) 56 (7) 60 := by decide +kernel
theorem q31_56 : qD 31 56 (.iconst 1) 1 57 ∧ Int32.ofInt (1) = (1 : Int32) := by decide +kernel
theorem q31_57 : qJ 31 57 (.goto 4) 60 (4) 61 := by decide +kernel
theorem q31_60 : qD 31 60 (.iconst 0) 1 61 ∧ Int32.ofInt (0) = (0 : Int32) := by decide +kernel
theorem q31_61 : qD 31 61 (.istore 9) 2 63 ∧ 9 < mL 31 := by decide +kernel
theorem q31_63 : qD 31 63 (.iload 9) 2 65 := by decide +kernel
theorem q31_65 : qJ 31 65 (.ifCond .eq 86) 68 (86) 151 := by decide +kernel
theorem q31_68 : qD 31 68 (.iload 5) 2 70 := by decide +kernel
theorem q31_70 : qJ 31 70 (.ifCond .ne 17) 73 (17) 87 := by decide +kernel
theorem q31_73 : qD 31 73 (.aload_n 2) 1 74 ∧ ((2 : Fin 4) : Nat) = 2 := by decide +kernel
theorem q31_74 : qG 31 74 27 77 7 0 238 2 := by decide +kernel
theorem q31_77 : qD 31 77 (.bipush 31) 2 79 ∧ (Int8.ofInt (31)).toInt32 = (31 : Int32) := by decide +kernel
theorem q31_79 : qD 31 79 (.iaload) 1 80 := by decide +kernel
theorem q31_80 : qD 31 80 (.aload_n 1) 1 81 ∧ ((1 : Fin 4) : Nat) = 1 := by decide +kernel
theorem q31_81 : qD 31 81 (.invokevirtual 84) 3 84 ∧ qI 31 84 18 831 := by decide +kernel
theorem q31_84 : qJ 31 84 (.if_icmp .ge 67) 87 (67) 151 := by decide +kernel
theorem q31_87 : qD 31 87 (.aload_n 0) 1 88 ∧ ((0 : Fin 4) : Nat) = 0 := by decide +kernel
theorem q31_88 : qD 31 88 (.aload_n 1) 1 89 ∧ ((1 : Fin 4) : Nat) = 1 := by decide +kernel
theorem q31_89 : qD 31 89 (.aload_n 2) 1 90 ∧ ((2 : Fin 4) : Nat) = 2 := by decide +kernel
theorem q31_90 : qD 31 90 (.aload_n 3) 1 91 ∧ ((3 : Fin 4) : Nat) = 3 := by decide +kernel
theorem q31_91 : qD 31 91 (.iload 8) 2 93 := by decide +kernel
theorem q31_93 : qD 31 93 (.aload_n 1) 1 94 ∧ ((1 : Fin 4) : Nat) = 1 := by decide +kernel
theorem q31_94 : qD 31 94 (.invokevirtual 65) 3 97 ∧ qI 31 65 16 824 := by decide +kernel
theorem q31_97 : qD 31 97 (.invokevirtual 87) 3 100 ∧ qI 31 87 28 832 := by decide +kernel
theorem q31_100 : qD 31 100 (.aload_n 0) 1 101 ∧ ((0 : Fin 4) : Nat) = 0 := by decide +kernel
theorem q31_101 : qD 31 101 (.aload_n 1) 1 102 ∧ ((1 : Fin 4) : Nat) = 1 := by decide +kernel
theorem q31_102 : qD 31 102 (.aload_n 2) 1 103 ∧ ((2 : Fin 4) : Nat) = 2 := by decide +kernel
theorem q31_103 : qD 31 103 (.aload_n 1) 1 104 ∧ ((1 : Fin 4) : Nat) = 1 := by decide +kernel
theorem q31_104 : qD 31 104 (.invokevirtual 65) 3 107 ∧ qI 31 65 16 824 := by decide +kernel
theorem q31_107 : qD 31 107 (.invokevirtual 91) 3 110 ∧ qI 31 91 30 875 := by decide +kernel
theorem q31_110 : qD 31 110 (.istore 10) 2 112 ∧ 10 < mL 31 := by decide +kernel
theorem q31_112 : qD 31 112 (.aload_n 0) 1 113 ∧ ((0 : Fin 4) : Nat) = 0 := by decide +kernel
theorem q31_113 : qD 31 113 (.aload_n 2) 1 114 ∧ ((2 : Fin 4) : Nat) = 2 := by decide +kernel
theorem q31_114 : qD 31 114 (.iload 8) 2 116 := by decide +kernel
theorem q31_116 : qD 31 116 (.iload 10) 2 118 := by decide +kernel
theorem q31_118 : qD 31 118 (.iload 6) 2 120 := by decide +kernel
theorem q31_120 : qD 31 120 (.iload 4) 2 122 := by decide +kernel
theorem q31_122 : qD 31 122 (.invokevirtual 95) 3 125 ∧ qI 31 95 32 879 := by decide +kernel
theorem q31_125 : qD 31 125 (.iload 7) 2 127 := by decide +kernel
theorem q31_127 : qD 31 127 (.iload 10) 2 129 := by decide +kernel
theorem q31_129 : qD 31 129 (.invokestatic 99) 3 132 ∧ qI 31 99 295 887 := by decide +kernel
theorem q31_132 : qD 31 132 (.iadd) 1 133 := by decide +kernel
theorem q31_133 : qD 31 133 (.istore 7) 2 135 ∧ 7 < mL 31 := by decide +kernel
theorem q31_135 : qD 31 135 (.aload_n 2) 1 136 ∧ ((2 : Fin 4) : Nat) = 2 := by decide +kernel
theorem q31_136 : qG 31 136 27 139 7 0 238 2 := by decide +kernel
theorem q31_139 : qD 31 139 (.bipush 31) 2 141 ∧ (Int8.ofInt (31)).toInt32 = (31 : Int32) := by decide +kernel
theorem q31_141 : qD 31 141 (.dup2) 1 142 := by decide +kernel
theorem q31_142 : qD 31 142 (.iaload) 1 143 := by decide +kernel
theorem q31_143 : qD 31 143 (.aload_n 1) 1 144 ∧ ((1 : Fin 4) : Nat) = 1 := by decide +kernel
theorem q31_144 : qD 31 144 (.iload 8) 2 146 := by decide +kernel
theorem q31_146 : qD 31 146 (.invokevirtual 21) 3 149 ∧ qI 31 21 25 836 := by decide +kernel
theorem q31_149 : qD 31 149 (.iadd) 1 150 := by decide +kernel
theorem q31_150 : qD 31 150 (.iastore) 1 151 := by decide +kernel
theorem q31_151 : qD 31 151 (.iinc 8 1) 3 154 ∧ 8 < mL 31 ∧ Int32.ofInt (1) = (1 : Int32) := by decide +kernel
theorem q31_154 : qJ 31 154 (.goto (-127)) 157 (-127) 27 := by decide +kernel
theorem q31_157 : qD 31 157 (.iload 7) 2 159 := by decide +kernel
theorem q31_159 : qD 31 159 (.ireturn) 1 160 ∧ mR 31 = some .int := by decide +kernel
theorem q32_0 : qD 32 0 (.iconst 0) 1 1 ∧ Int32.ofInt (0) = (0 : Int32) := by decide +kernel
theorem q32_1 : qD 32 1 (.istore 6) 2 3 ∧ 6 < mL 32 := by decide +kernel
theorem q32_3 : qD 32 3 (.iload 6) 2 5 := by decide +kernel
theorem q32_5 : qD 32 5 (.bipush 7) 2 7 ∧ (Int8.ofInt (7)).toInt32 = (7 : Int32) := by decide +kernel
theorem q32_7 : qJ 32 7 (.if_icmp .ge 58) 10 (58) 65 := by decide +kernel
theorem q32_10 : qD 32 10 (.iload_n 3) 1 11 ∧ ((3 : Fin 4) : Nat) = 3 := by decide +kernel
theorem q32_11 : qD 32 11 (.iload 6) 2 13 := by decide +kernel
theorem q32_13 : qD 32 13 (.ishr) 1 14 := by decide +kernel
theorem q32_14 : qD 32 14 (.iconst 1) 1 15 ∧ Int32.ofInt (1) = (1 : Int32) := by decide +kernel
theorem q32_15 : qD 32 15 (.iand) 1 16 := by decide +kernel
theorem q32_16 : qD 32 16 (.iconst 1) 1 17 ∧ Int32.ofInt (1) = (1 : Int32) := by decide +kernel
theorem q32_17 : qJ 32 17 (.if_icmp .ne 42) 20 (42) 59 := by decide +kernel
theorem q32_20 : qD 32 20 (.aload_n 0) 1 21 ∧ ((0 : Fin 4) : Nat) = 0 := by decide +kernel
theorem q32_21 : qG 32 21 15 24 4 1 279 2 := by decide +kernel
theorem q32_24 : qD 32 24 (.iload 6) 2 26 := by decide +kernel
theorem q32_26 : qD 32 26 (.dup2) 1 27 := by decide +kernel
theorem q32_27 : qD 32 27 (.iaload) 1 28 := by decide +kernel
theorem q32_28 : qD 32 28 (.iconst 1) 1 29 ∧ Int32.ofInt (1) = (1 : Int32) := by decide +kernel
theorem q32_29 : qD 32 29 (.iload_n 2) 1 30 ∧ ((2 : Fin 4) : Nat) = 2 := by decide +kernel
theorem q32_30 : qD 32 30 (.ishl) 1 31 := by decide +kernel
theorem q32_31 : qD 32 31 (.ior) 1 32 := by decide +kernel
theorem q32_32 : qD 32 32 (.iastore) 1 33 := by decide +kernel
theorem q32_33 : qD 32 33 (.aload_n 1) 1 34 ∧ ((1 : Fin 4) : Nat) = 1 := by decide +kernel
theorem q32_34 : qG 32 34 27 37 7 0 238 2 := by decide +kernel
theorem q32_37 : qD 32 37 (.bipush 21) 2 39 ∧ (Int8.ofInt (21)).toInt32 = (21 : Int32) := by decide +kernel
theorem q32_39 : qD 32 39 (.iload 6) 2 41 := by decide +kernel
theorem q32_41 : qD 32 41 (.iadd) 1 42 := by decide +kernel
theorem q32_42 : qD 32 42 (.dup2) 1 43 := by decide +kernel
theorem q32_43 : qD 32 43 (.iaload) 1 44 := by decide +kernel
theorem q32_44 : qD 32 44 (.iconst 1) 1 45 ∧ Int32.ofInt (1) = (1 : Int32) := by decide +kernel
theorem q32_45 : qD 32 45 (.iload_n 2) 1 46 ∧ ((2 : Fin 4) : Nat) = 2 := by decide +kernel
theorem q32_46 : qD 32 46 (.ishl) 1 47 := by decide +kernel
theorem q32_47 : qD 32 47 (.ior) 1 48 := by decide +kernel
theorem q32_48 : qD 32 48 (.iastore) 1 49 := by decide +kernel
theorem q32_49 : qD 32 49 (.aload_n 1) 1 50 ∧ ((1 : Fin 4) : Nat) = 1 := by decide +kernel
theorem q32_50 : qD 32 50 (.iload 6) 2 52 := by decide +kernel
theorem q32_52 : qD 32 52 (.iload 4) 2 54 := by decide +kernel
theorem q32_54 : qD 32 54 (.iload 5) 2 56 := by decide +kernel
theorem q32_56 : qD 32 56 (.invokevirtual 104) 3 59 ∧ qI 32 104 61 883 := by decide +kernel
theorem q32_59 : qD 32 59 (.iinc 6 1) 3 62 ∧ 6 < mL 32 ∧ Int32.ofInt (1) = (1 : Int32) := by decide +kernel
theorem q32_62 : qJ 32 62 (.goto (-59)) 65 (-59) 3 := by decide +kernel
theorem q32_65 : qD 32 65 (.return_) 1 66 ∧ mR 32 = none := by decide +kernel
theorem q49_0 : qD 49 0 (.aload_n 0) 1 1 ∧ ((0 : Fin 4) : Nat) = 0 := by decide +kernel
theorem q49_1 : qD 49 1 (.invokespecial 3) 3 4 ∧ inG 221 (.methodLink (mN 49).cls 3 Lib.objectInit) := by decide +kernel
theorem q49_4 : qD 49 4 (.aload_n 0) 1 5 ∧ ((0 : Fin 4) : Nat) = 0 := by decide +kernel
theorem q49_5 : qD 49 5 (.bipush 48) 2 7 ∧ (Int8.ofInt (48)).toInt32 = (48 : Int32) := by decide +kernel
theorem q49_7 : qD 49 7 (.newarray .int) 2 9 ∧ (100 = 100 ∨ 100 = 101 ∨ 100 = 102 ∨ 100 = 103) ∧ newarray.typeOf .int = kty 100 ∧ inG 165 (.arrayClass (kty 100)) := by decide +kernel
theorem q49_9 : qP 49 9 11 12 6 0 222 2 := by decide +kernel
theorem q49_12 : qD 49 12 (.return_) 1 13 ∧ mR 49 = none := by decide +kernel
theorem q50_0 : qD 50 0 (.aload_n 0) 1 1 ∧ ((0 : Fin 4) : Nat) = 0 := by decide +kernel
theorem q50_1 : qD 50 1 (.iconst 0) 1 2 ∧ Int32.ofInt (0) = (0 : Int32) := by decide +kernel
theorem q50_2 : qP 50 2 15 5 6 1 223 0 := by decide +kernel
theorem q50_5 : qD 50 5 (.iconst 0) 1 6 ∧ Int32.ofInt (0) = (0 : Int32) := by decide +kernel
theorem q50_6 : qD 50 6 (.istore_n 2) 1 7 ∧ ((2 : Fin 4) : Nat) = 2 ∧ 2 < mL 50 := by decide +kernel
theorem q50_7 : qD 50 7 (.iload_n 2) 1 8 ∧ ((2 : Fin 4) : Nat) = 2 := by decide +kernel
theorem q50_8 : qD 50 8 (.bipush 16) 2 10 ∧ (Int8.ofInt (16)).toInt32 = (16 : Int32) := by decide +kernel
theorem q50_10 : qJ 50 10 (.if_icmp .ge 47) 13 (47) 57 := by decide +kernel
theorem q50_13 : qD 50 13 (.aload_n 0) 1 14 ∧ ((0 : Fin 4) : Nat) = 0 := by decide +kernel
theorem q50_14 : qD 50 14 (.aload_n 1) 1 15 ∧ ((1 : Fin 4) : Nat) = 1 := by decide +kernel
theorem q50_15 : qD 50 15 (.iload_n 2) 1 16 ∧ ((2 : Fin 4) : Nat) = 2 := by decide +kernel
theorem q50_16 : qD 50 16 (.iconst 3) 1 17 ∧ Int32.ofInt (3) = (3 : Int32) := by decide +kernel
theorem q50_17 : qD 50 17 (.imul) 1 18 := by decide +kernel
theorem q50_18 : qD 50 18 (.invokevirtual 19) 3 21 ∧ qI 50 19 51 644 := by decide +kernel
theorem q50_21 : qD 50 21 (.aload_n 0) 1 22 ∧ ((0 : Fin 4) : Nat) = 0 := by decide +kernel
theorem q50_22 : qD 50 22 (.dup) 1 23 := by decide +kernel
theorem q50_23 : qG 50 23 15 26 6 1 223 0 := by decide +kernel
theorem q50_26 : qD 50 26 (.iconst 1) 1 27 ∧ Int32.ofInt (1) = (1 : Int32) := by decide +kernel
theorem q50_27 : qD 50 27 (.iadd) 1 28 := by decide +kernel
theorem q50_28 : qP 50 28 15 31 6 1 223 0 := by decide +kernel
theorem q50_31 : qD 50 31 (.iload_n 2) 1 32 ∧ ((2 : Fin 4) : Nat) = 2 := by decide +kernel
theorem q50_32 : qD 50 32 (.iconst 1) 1 33 ∧ Int32.ofInt (1) = (1 : Int32) := by decide +kernel
theorem q50_33 : qD 50 33 (.iadd) 1 34 := by decide +kernel
theorem q50_34 : qD 50 34 (.bipush 16) 2 36 ∧ (Int8.ofInt (16)).toInt32 = (16 : Int32) := by decide +kernel
theorem q50_36 : qJ 50 36 (.if_icmp .eq 21) 39 (21) 57 := by decide +kernel
theorem q50_39 : qD 50 39 (.aload_n 1) 1 40 ∧ ((1 : Fin 4) : Nat) = 1 := by decide +kernel
theorem q50_40 : qD 50 40 (.bipush 59) 2 42 ∧ (Int8.ofInt (59)).toInt32 = (59 : Int32) := by decide +kernel
theorem q50_42 : qD 50 42 (.invokevirtual 23) 3 45 ∧ qI 50 23 71 656 := by decide +kernel
theorem q50_45 : qJ 50 45 (.ifCond .ne 6) 48 (6) 51 := by decide +kernel
theorem q50_48 : qJ 50 48 (.goto 9) 51 (9) 57 := by decide +kernel
theorem q50_51 : qD 50 51 (.iinc 2 1) 3 54 ∧ 2 < mL 50 ∧ Int32.ofInt (1) = (1 : Int32) := by decide +kernel
theorem q50_54 : qJ 50 54 (.goto (-47)) 57 (-47) 7 := by decide +kernel
theorem q50_57 : qD 50 57 (.aload_n 1) 1 58 ∧ ((1 : Fin 4) : Nat) = 1 := by decide +kernel
theorem q50_58 : qD 50 58 (.invokevirtual 29) 3 61 ∧ qI 50 29 73 657 := by decide +kernel
theorem q50_61 : qD 50 61 (.return_) 1 62 ∧ mR 50 = none := by decide +kernel
theorem q51_0 : qD 51 0 (.aload_n 1) 1 1 ∧ ((1 : Fin 4) : Nat) = 1 := by decide +kernel
theorem q51_1 : qD 51 1 (.ldc 32) 2 3 ∧ cR[4]? = some ((mN 51).cls, 32, "smtce", 4) := by decide +kernel
theorem q51_3 : qD 51 3 (.invokevirtual 34) 3 6 ∧ qI 51 34 76 649 := by decide +kernel
theorem q51_6 : qD 51 6 (.istore_n 3) 1 7 ∧ ((3 : Fin 4) : Nat) = 3 ∧ 3 < mL 51 := by decide +kernel
theorem q51_7 : qD 51 7 (.iload_n 3) 1 8 ∧ ((3 : Fin 4) : Nat) = 3 := by decide +kernel
theorem q51_8 : qD 51 8 (.iconst (-1)) 1 9 ∧ Int32.ofInt (-1) = (-1 : Int32) := by decide +kernel
theorem q51_9 : qJ 51 9 (.if_icmp .ne 8) 12 (8) 17 := by decide +kernel
theorem q51_12 : qD 51 12 (.aload_n 1) 1 13 ∧ ((1 : Fin 4) : Nat) = 1 := by decide +kernel
theorem q51_13 : qD 51 13 (.invokevirtual 38) 3 16 ∧ qI 51 38 74 650 := by decide +kernel
theorem q51_16 : qD 51 16 (.return_) 1 17 ∧ mR 51 = none := by decide +kernel
theorem q51_17 : qD 51 17 (.aload_n 1) 1 18 ∧ ((1 : Fin 4) : Nat) = 1 := by decide +kernel
theorem q51_18 : qD 51 18 (.invokevirtual 41) 3 21 ∧ qI 51 41 70 651 := by decide +kernel
theorem q51_21 : qD 51 21 (.aload_n 0) 1 22 ∧ ((0 : Fin 4) : Nat) = 0 := by decide +kernel
theorem q51_22 : qG 51 22 11 25 6 0 222 2 := by decide +kernel
theorem q51_25 : qD 51 25 (.iload_n 2) 1 26 ∧ ((2 : Fin 4) : Nat) = 2 := by decide +kernel
theorem q51_26 : qD 51 26 (.iload_n 3) 1 27 ∧ ((3 : Fin 4) : Nat) = 3 := by decide +kernel
theorem q51_27 : qD 51 27 (.iastore) 1 28 := by decide +kernel
theorem q51_28 : qD 51 28 (.aload_n 0) 1 29 ∧ ((0 : Fin 4) : Nat) = 0 := by decide +kernel
theorem q51_29 : qG 51 29 11 32 6 0 222 2 := by decide +kernel
theorem q51_32 : qD 51 32 (.iload_n 2) 1 33 ∧ ((2 : Fin 4) : Nat) = 2 := by decide +kernel
theorem q51_33 : qD 51 33 (.iconst 1) 1 34 ∧ Int32.ofInt (1) = (1 : Int32) := by decide +kernel
theorem q51_34 : qD 51 34 (.iadd) 1 35 := by decide +kernel
theorem q51_35 : qD 51 35 (.iload_n 3) 1 36 ∧ ((3 : Fin 4) : Nat) = 3 := by decide +kernel
theorem q51_36 : qJ 51 36 (.ifCond .eq 8) 39 (8) 44 := by decide +kernel
theorem q51_39 : qD 51 39 (.iload_n 3) 1 40 ∧ ((3 : Fin 4) : Nat) = 3 := by decide +kernel
theorem q51_40 : qD 51 40 (.iconst 1) 1 41 ∧ Int32.ofInt (1) = (1 : Int32) := by decide +kernel
theorem q51_41 : qJ 51 41 (.if_icmp .ne 10) 44 (10) 51 := by decide +kernel
theorem q51_44 : qD 51 44 (.aload_n 1) 1 45 ∧ ((1 : Fin 4) : Nat) = 1 := by decide +kernel
theorem q51_45 : qD 51 45 (.invokevirtual 44) 3 48 ∧ qI 51 44 77 652 := by decide +kernel
theorem q51_48 : qJ 51 48 (.goto 4) 51 (4) 52 := by decide +kernel
theorem q51_51 : qD 51 51 (.iconst (-1)) 1 52 ∧ Int32.ofInt (-1) = (-1 : Int32) := by decide +kernel
theorem q51_52 : qD 51 52 (.iastore) 1 53 := by decide +kernel
theorem q51_53 : qD 51 53 (.aload_n 0) 1 54 ∧ ((0 : Fin 4) : Nat) = 0 := by decide +kernel
theorem q51_54 : qG 51 54 11 57 6 0 222 2 := by decide +kernel
theorem q51_57 : qD 51 57 (.iload_n 2) 1 58 ∧ ((2 : Fin 4) : Nat) = 2 := by decide +kernel
theorem q51_58 : qD 51 58 (.iconst 2) 1 59 ∧ Int32.ofInt (2) = (2 : Int32) := by decide +kernel
theorem q51_59 : qD 51 59 (.iadd) 1 60 := by decide +kernel
theorem q51_60 : qD 51 60 (.iload_n 3) 1 61 ∧ ((3 : Fin 4) : Nat) = 3 := by decide +kernel
theorem q51_61 : qD 51 61 (.iconst 1) 1 62 ∧ Int32.ofInt (1) = (1 : Int32) := by decide +kernel
theorem q51_62 : qJ 51 62 (.if_icmp .ne 10) 65 (10) 72 := by decide +kernel
theorem q51_65 : qD 51 65 (.aload_n 1) 1 66 ∧ ((1 : Fin 4) : Nat) = 1 := by decide +kernel
theorem q51_66 : qD 51 66 (.invokevirtual 44) 3 69 ∧ qI 51 44 77 652 := by decide +kernel
theorem q51_69 : qJ 51 69 (.goto 4) 72 (4) 73 := by decide +kernel
theorem q51_72 : qD 51 72 (.iconst (-1)) 1 73 ∧ Int32.ofInt (-1) = (-1 : Int32) := by decide +kernel
theorem q51_73 : qD 51 73 (.iastore) 1 74 := by decide +kernel
theorem q51_74 : qD 51 74 (.return_) 1 75 ∧ mR 51 = none := by decide +kernel
theorem q52_0 : qD 52 0 (.aload_n 0) 1 1 ∧ ((0 : Fin 4) : Nat) = 0 := by decide +kernel
theorem q52_1 : qG 52 1 11 4 6 0 222 2 := by decide +kernel
theorem q52_4 : qD 52 4 (.iload_n 1) 1 5 ∧ ((1 : Fin 4) : Nat) = 1 := by decide +kernel
theorem q52_5 : qD 52 5 (.iconst 3) 1 6 ∧ Int32.ofInt (3) = (3 : Int32) := by decide +kernel
theorem q52_6 : qD 52 6 (.imul) 1 7 := by decide +kernel
theorem q52_7 : qD 52 7 (.iload_n 2) 1 8 ∧ ((2 : Fin 4) : Nat) = 2 := by decide +kernel
theorem q52_8 : qD 52 8 (.iadd) 1 9 := by decide +kernel
theorem q52_9 : qD 52 9 (.iaload) 1 10 := by decide +kernel
theorem q52_10 : qD 52 10 (.ireturn) 1 11 ∧ mR 52 = some .int := by decide +kernel
theorem q53_0 : qD 53 0 (.aload_n 0) 1 1 ∧ ((0 : Fin 4) : Nat) = 0 := by decide +kernel
theorem q53_1 : qD 53 1 (.invokespecial 3) 3 4 ∧ inG 235 (.methodLink (mN 53).cls 3 Lib.objectInit) := by decide +kernel
theorem q53_4 : qD 53 4 (.aload_n 0) 1 5 ∧ ((0 : Fin 4) : Nat) = 0 := by decide +kernel
theorem q53_5 : qD 53 5 (.bipush 33) 2 7 ∧ (Int8.ofInt (33)).toInt32 = (33 : Int32) := by decide +kernel
theorem q53_7 : qD 53 7 (.newarray .int) 2 9 ∧ (100 = 100 ∨ 100 = 101 ∨ 100 = 102 ∨ 100 = 103) ∧ newarray.typeOf .int = kty 100 ∧ inG 165 (.arrayClass (kty 100)) := by decide +kernel
theorem q53_9 : qP 53 9 9 12 7 0 236 2 := by decide +kernel
theorem q53_12 : qD 53 12 (.return_) 1 13 ∧ mR 53 = none := by decide +kernel
theorem q54_0 : qD 54 0 (.aload_n 0) 1 1 ∧ ((0 : Fin 4) : Nat) = 0 := by decide +kernel
theorem q54_1 : qG 54 1 9 4 7 0 236 2 := by decide +kernel
theorem q54_4 : qD 54 4 (.iconst 0) 1 5 ∧ Int32.ofInt (0) = (0 : Int32) := by decide +kernel
theorem q54_5 : qD 54 5 (.invokestatic 15) 3 8 ∧ qI 54 15 322 671 := by decide +kernel
theorem q54_8 : qD 54 8 (.iconst 0) 1 9 ∧ Int32.ofInt (0) = (0 : Int32) := by decide +kernel
theorem q54_9 : qD 54 9 (.istore_n 2) 1 10 ∧ ((2 : Fin 4) : Nat) = 2 ∧ 2 < mL 54 := by decide +kernel
theorem q54_10 : qD 54 10 (.iload_n 2) 1 11 ∧ ((2 : Fin 4) : Nat) = 2 := by decide +kernel
theorem q54_11 : qD 54 11 (.aload_n 1) 1 12 ∧ ((1 : Fin 4) : Nat) = 1 := by decide +kernel
theorem q54_12 : qG 54 12 21 15 3 3 177 0 := by decide +kernel
theorem q54_15 : qJ 54 15 (.if_icmp .ge 32) 18 (32) 47 := by decide +kernel
theorem q54_18 : qD 54 18 (.aload_n 0) 1 19 ∧ ((0 : Fin 4) : Nat) = 0 := by decide +kernel
theorem q54_19 : qG 54 19 9 22 7 0 236 2 := by decide +kernel
theorem q54_22 : qD 54 22 (.iconst 0) 1 23 ∧ Int32.ofInt (0) = (0 : Int32) := by decide +kernel
theorem q54_23 : qD 54 23 (.iload_n 2) 1 24 ∧ ((2 : Fin 4) : Nat) = 2 := by decide +kernel
theorem q54_24 : qD 54 24 (.iadd) 1 25 := by decide +kernel
theorem q54_25 : qD 54 25 (.iload_n 2) 1 26 ∧ ((2 : Fin 4) : Nat) = 2 := by decide +kernel
theorem q54_26 : qD 54 26 (.iastore) 1 27 := by decide +kernel
theorem q54_27 : qD 54 27 (.aload_n 0) 1 28 ∧ ((0 : Fin 4) : Nat) = 0 := by decide +kernel
theorem q54_28 : qG 54 28 9 31 7 0 236 2 := by decide +kernel
theorem q54_31 : qD 54 31 (.bipush 7) 2 33 ∧ (Int8.ofInt (7)).toInt32 = (7 : Int32) := by decide +kernel
theorem q54_33 : qD 54 33 (.iload_n 2) 1 34 ∧ ((2 : Fin 4) : Nat) = 2 := by decide +kernel
theorem q54_34 : qD 54 34 (.iadd) 1 35 := by decide +kernel
theorem q54_35 : qD 54 35 (.aload_n 1) 1 36 ∧ ((1 : Fin 4) : Nat) = 1 := by decide +kernel
theorem q54_36 : qD 54 36 (.iload_n 2) 1 37 ∧ ((2 : Fin 4) : Nat) = 2 := by decide +kernel
theorem q54_37 : qD 54 37 (.invokevirtual 27) 3 40 ∧ qI 54 27 24 674 := by decide +kernel
theorem q54_40 : qD 54 40 (.iastore) 1 41 := by decide +kernel
theorem q54_41 : qD 54 41 (.iinc 2 1) 3 44 ∧ 2 < mL 54 ∧ Int32.ofInt (1) = (1 : Int32) := by decide +kernel
theorem q54_44 : qJ 54 44 (.goto (-34)) 47 (-34) 10 := by decide +kernel
theorem q54_47 : qD 54 47 (.return_) 1 48 ∧ mR 54 = none := by decide +kernel
theorem q55_0 : qD 55 0 (.aload_n 1) 1 1 ∧ ((1 : Fin 4) : Nat) = 1 := by decide +kernel
theorem q55_1 : qG 55 1 9 4 7 0 236 2 := by decide +kernel
theorem q55_4 : qD 55 4 (.iconst 0) 1 5 ∧ Int32.ofInt (0) = (0 : Int32) := by decide +kernel
theorem q55_5 : qD 55 5 (.aload_n 0) 1 6 ∧ ((0 : Fin 4) : Nat) = 0 := by decide +kernel
theorem q55_6 : qG 55 6 9 9 7 0 236 2 := by decide +kernel
theorem q55_9 : qD 55 9 (.iconst 0) 1 10 ∧ Int32.ofInt (0) = (0 : Int32) := by decide +kernel
theorem q55_10 : qD 55 10 (.bipush 33) 2 12 ∧ (Int8.ofInt (33)).toInt32 = (33 : Int32) := by decide +kernel
theorem q55_12 : qD 55 12 (.invokestatic 31) 3 15 ∧ inG 961 (.methodLink (mN 55).cls 31 arraycopyName) := by decide +kernel
theorem q55_15 : qD 55 15 (.return_) 1 16 ∧ mR 55 = none := by decide +kernel
theorem q56_0 : qD 56 0 (.aload_n 0) 1 1 ∧ ((0 : Fin 4) : Nat) = 0 := by decide +kernel
theorem q56_1 : qG 56 1 9 4 7 0 236 2 := by decide +kernel
theorem q56_4 : qD 56 4 (.bipush 28) 2 6 ∧ (Int8.ofInt (28)).toInt32 = (28 : Int32) := by decide +kernel
theorem q56_6 : qD 56 6 (.iaload) 1 7 := by decide +kernel
theorem q56_7 : qD 56 7 (.iload_n 1) 1 8 ∧ ((1 : Fin 4) : Nat) = 1 := by decide +kernel
theorem q56_8 : qD 56 8 (.ishr) 1 9 := by decide +kernel
theorem q56_9 : qD 56 9 (.iconst 1) 1 10 ∧ Int32.ofInt (1) = (1 : Int32) := by decide +kernel
theorem q56_10 : qD 56 10 (.iand) 1 11 := by decide +kernel
theorem q56_11 : qD 56 11 (.iconst 1) 1 12 ∧ Int32.ofInt (1) = (1 : Int32) := by decide +kernel
theorem q56_12 : qJ 56 12 (.if_icmp .ne 7) 15 (7) 19 := by decide +kernel
theorem q56_15 : qD 56 15 (.iconst 1) 1 16 ∧ Int32.ofInt (1) = (1 : Int32) := by decide +kernel
theorem q56_16 : qJ 56 16 (.goto 4) 19 (4) 20 := by decide +kernel
theorem q56_19 : qD 56 19 (.iconst 0) 1 20 ∧ Int32.ofInt (0) = (0 : Int32) := by decide +kernel
theorem q56_20 : qD 56 20 (.ireturn) 1 21 ∧ mR 56 = some .boolean := by decide +kernel
theorem q57_0 : qD 57 0 (.iconst 0) 1 1 ∧ Int32.ofInt (0) = (0 : Int32) := by decide +kernel
theorem q57_1 : qD 57 1 (.istore_n 3) 1 2 ∧ ((3 : Fin 4) : Nat) = 3 ∧ 3 < mL 57 := by decide +kernel
theorem q57_2 : qD 57 2 (.iload_n 3) 1 3 ∧ ((3 : Fin 4) : Nat) = 3 := by decide +kernel
theorem q57_3 : qD 57 3 (.iload_n 2) 1 4 ∧ ((2 : Fin 4) : Nat) = 2 := by decide +kernel
theorem q57_4 : qD 57 4 (.iconst 1) 1 5 ∧ Int32.ofInt (1) = (1 : Int32) := by decide +kernel
theorem q57_5 : qD 57 5 (.isub) 1 6 := by decide +kernel
theorem q57_6 : qJ 57 6 (.if_icmp .ge 21) 9 (21) 27 := by decide +kernel
theorem q57_9 : qD 57 9 (.aload_n 0) 1 10 ∧ ((0 : Fin 4) : Nat) = 0 := by decide +kernel
theorem q57_10 : qG 57 10 9 13 7 0 236 2 := by decide +kernel
theorem q57_13 : qD 57 13 (.iconst 0) 1 14 ∧ Int32.ofInt (0) = (0 : Int32) := by decide +kernel
theorem q57_14 : qD 57 14 (.iload_n 3) 1 15 ∧ ((3 : Fin 4) : Nat) = 3 := by decide +kernel
theorem q57_15 : qD 57 15 (.iadd) 1 16 := by decide +kernel
theorem q57_16 : qD 57 16 (.iaload) 1 17 := by decide +kernel
theorem q57_17 : qD 57 17 (.iload_n 1) 1 18 ∧ ((1 : Fin 4) : Nat) = 1 := by decide +kernel
theorem q57_18 : qJ 57 18 (.if_icmp .eq 9) 21 (9) 27 := by decide +kernel
theorem q57_21 : qD 57 21 (.iinc 3 1) 3 24 ∧ 3 < mL 57 ∧ Int32.ofInt (1) = (1 : Int32) := by decide +kernel
theorem q57_24 : qJ 57 24 (.goto (-22)) 27 (-22) 2 := by decide +kernel
theorem q57_27 : qD 57 27 (.iload_n 3) 1 28 ∧ ((3 : Fin 4) : Nat) = 3 := by decide +kernel
theorem q57_28 : qD 57 28 (.ireturn) 1 29 ∧ mR 57 = some .int := by decide +kernel
theorem q58_0 : qD 58 0 (.aload_n 0) 1 1 ∧ ((0 : Fin 4) : Nat) = 0 := by decide +kernel
theorem q58_1 : qD 58 1 (.iload_n 1) 1 2 ∧ ((1 : Fin 4) : Nat) = 1 := by decide +kernel
theorem q58_2 : qD 58 2 (.iload_n 3) 1 3 ∧ ((3 : Fin 4) : Nat) = 3 := by decide +kernel
theorem q58_3 : qD 58 3 (.invokevirtual 37) 3 6 ∧ qI 58 37 57 808 := by decide +kernel
theorem q58_6 : qD 58 6 (.istore 4) 2 8 ∧ 4 < mL 58 := by decide +kernel
theorem q58_8 : qD 58 8 (.aload_n 0) 1 9 ∧ ((0 : Fin 4) : Nat) = 0 := by decide +kernel
theorem q58_9 : qD 58 9 (.iload_n 2) 1 10 ∧ ((2 : Fin 4) : Nat) = 2 := by decide +kernel
theorem q58_10 : qD 58 10 (.iload_n 3) 1 11 ∧ ((3 : Fin 4) : Nat) = 3 := by decide +kernel
theorem q58_11 : qD 58 11 (.invokevirtual 37) 3 14 ∧ qI 58 37 57 808 := by decide +kernel
theorem q58_14 : qD 58 14 (.istore 5) 2 16 ∧ 5 < mL 58 := by decide +kernel
theorem q58_16 : qD 58 16 (.aload_n 0) 1 17 ∧ ((0 : Fin 4) : Nat) = 0 := by decide +kernel
theorem q58_17 : qG 58 17 9 20 7 0 236 2 := by decide +kernel
theorem q58_20 : qD 58 20 (.iconst 0) 1 21 ∧ Int32.ofInt (0) = (0 : Int32) := by decide +kernel
theorem q58_21 : qD 58 21 (.iload 4) 2 23 := by decide +kernel
theorem q58_23 : qD 58 23 (.iadd) 1 24 := by decide +kernel
theorem q58_24 : qD 58 24 (.iload_n 2) 1 25 ∧ ((2 : Fin 4) : Nat) = 2 := by decide +kernel
theorem q58_25 : qD 58 25 (.iastore) 1 26 := by decide +kernel
theorem q58_26 : qD 58 26 (.aload_n 0) 1 27 ∧ ((0 : Fin 4) : Nat) = 0 := by decide +kernel
theorem q58_27 : qG 58 27 9 30 7 0 236 2 := by decide +kernel
theorem q58_30 : qD 58 30 (.iconst 0) 1 31 ∧ Int32.ofInt (0) = (0 : Int32) := by decide +kernel
theorem q58_31 : qD 58 31 (.iload 5) 2 33 := by decide +kernel
theorem q58_33 : qD 58 33 (.iadd) 1 34 := by decide +kernel
theorem q58_34 : qD 58 34 (.iload_n 1) 1 35 ∧ ((1 : Fin 4) : Nat) = 1 := by decide +kernel
theorem q58_35 : qD 58 35 (.iastore) 1 36 := by decide +kernel
theorem q58_36 : qD 58 36 (.return_) 1 37 ∧ mR 58 = none := by decide +kernel
theorem q59_0 : qD 59 0 (.iconst 0) 1 1 ∧ Int32.ofInt (0) = (0 : Int32) := by decide +kernel
theorem q59_1 : qD 59 1 (.istore_n 2) 1 2 ∧ ((2 : Fin 4) : Nat) = 2 ∧ 2 < mL 59 := by decide +kernel
theorem q59_2 : qD 59 2 (.iconst 1) 1 3 ∧ Int32.ofInt (1) = (1 : Int32) := by decide +kernel
theorem q59_3 : qD 59 3 (.istore_n 3) 1 4 ∧ ((3 : Fin 4) : Nat) = 3 ∧ 3 < mL 59 := by decide +kernel
theorem q59_4 : qD 59 4 (.iload_n 3) 1 5 ∧ ((3 : Fin 4) : Nat) = 3 := by decide +kernel
theorem q59_5 : qD 59 5 (.iload_n 1) 1 6 ∧ ((1 : Fin 4) : Nat) = 1 := by decide +kernel
theorem q59_6 : qJ 59 6 (.if_icmp .ge 32) 9 (32) 38 := by decide +kernel
theorem q59_9 : qD 59 9 (.aload_n 0) 1 10 ∧ ((0 : Fin 4) : Nat) = 0 := by decide +kernel
theorem q59_10 : qG 59 10 9 13 7 0 236 2 := by decide +kernel
theorem q59_13 : qD 59 13 (.bipush 7) 2 15 ∧ (Int8.ofInt (7)).toInt32 = (7 : Int32) := by decide +kernel
theorem q59_15 : qD 59 15 (.iload_n 3) 1 16 ∧ ((3 : Fin 4) : Nat) = 3 := by decide +kernel
theorem q59_16 : qD 59 16 (.iadd) 1 17 := by decide +kernel
theorem q59_17 : qD 59 17 (.iaload) 1 18 := by decide +kernel
theorem q59_18 : qD 59 18 (.aload_n 0) 1 19 ∧ ((0 : Fin 4) : Nat) = 0 := by decide +kernel
theorem q59_19 : qG 59 19 9 22 7 0 236 2 := by decide +kernel
theorem q59_22 : qD 59 22 (.bipush 7) 2 24 ∧ (Int8.ofInt (7)).toInt32 = (7 : Int32) := by decide +kernel
theorem q59_24 : qD 59 24 (.iload_n 2) 1 25 ∧ ((2 : Fin 4) : Nat) = 2 := by decide +kernel
theorem q59_25 : qD 59 25 (.iadd) 1 26 := by decide +kernel
theorem q59_26 : qD 59 26 (.iaload) 1 27 := by decide +kernel
theorem q59_27 : qJ 59 27 (.if_icmp .le 5) 30 (5) 32 := by decide +kernel
theorem q59_30 : qD 59 30 (.iload_n 3) 1 31 ∧ ((3 : Fin 4) : Nat) = 3 := by decide +kernel
theorem q59_31 : qD 59 31 (.istore_n 2) 1 32 ∧ ((2 : Fin 4) : Nat) = 2 ∧ 2 < mL 59 := by decide +kernel
theorem q59_32 : qD 59 32 (.iinc 3 1) 3 35 ∧ 3 < mL 59 ∧ Int32.ofInt (1) = (1 : Int32) := by decide +kernel
theorem q59_35 : qJ 59 35 (.goto (-31)) 38 (-31) 4 := by decide +kernel
theorem q59_38 : qD 59 38 (.iload_n 2) 1 39 ∧ ((2 : Fin 4) : Nat) = 2 := by decide +kernel
theorem q59_39 : qD 59 39 (.ireturn) 1 40 ∧ mR 59 = some .int := by decide +kernel
theorem q60_0 : qD 60 0 (.iconst 0) 1 1 ∧ Int32.ofInt (0) = (0 : Int32) := by decide +kernel
theorem q60_1 : qD 60 1 (.istore_n 2) 1 2 ∧ ((2 : Fin 4) : Nat) = 2 ∧ 2 < mL 60 := by decide +kernel
theorem q60_2 : qD 60 2 (.iconst 0) 1 3 ∧ Int32.ofInt (0) = (0 : Int32) := by decide +kernel
theorem q60_3 : qD 60 3 (.istore_n 3) 1 4 ∧ ((3 : Fin 4) : Nat) = 3 ∧ 3 < mL 60 := by decide +kernel
theorem q60_4 : qD 60 4 (.iload_n 3) 1 5 ∧ ((3 : Fin 4) : Nat) = 3 := by decide +kernel
theorem q60_5 : qD 60 5 (.iload_n 1) 1 6 ∧ ((1 : Fin 4) : Nat) = 1 := by decide +kernel
theorem q60_6 : qJ 60 6 (.if_icmp .ge 21) 9 (21) 27 := by decide +kernel
theorem q60_9 : qD 60 9 (.iload_n 2) 1 10 ∧ ((2 : Fin 4) : Nat) = 2 := by decide +kernel
theorem q60_10 : qD 60 10 (.aload_n 0) 1 11 ∧ ((0 : Fin 4) : Nat) = 0 := by decide +kernel
theorem q60_11 : qG 60 11 9 14 7 0 236 2 := by decide +kernel
theorem q60_14 : qD 60 14 (.bipush 7) 2 16 ∧ (Int8.ofInt (7)).toInt32 = (7 : Int32) := by decide +kernel
theorem q60_16 : qD 60 16 (.iload_n 3) 1 17 ∧ ((3 : Fin 4) : Nat) = 3 := by decide +kernel
theorem q60_17 : qD 60 17 (.iadd) 1 18 := by decide +kernel
theorem q60_18 : qD 60 18 (.iaload) 1 19 := by decide +kernel
theorem q60_19 : qD 60 19 (.iadd) 1 20 := by decide +kernel
theorem q60_20 : qD 60 20 (.istore_n 2) 1 21 ∧ ((2 : Fin 4) : Nat) = 2 ∧ 2 < mL 60 := by decide +kernel
theorem q60_21 : qD 60 21 (.iinc 3 1) 3 24 ∧ 3 < mL 60 ∧ Int32.ofInt (1) = (1 : Int32) := by decide +kernel
theorem q60_24 : qJ 60 24 (.goto (-20)) 27 (-20) 4 := by decide +kernel
theorem q60_27 : qD 60 27 (.iload_n 2) 1 28 ∧ ((2 : Fin 4) : Nat) = 2 := by decide +kernel
theorem q60_28 : qD 60 28 (.ireturn) 1 29 ∧ mR 60 = some .int := by decide +kernel
theorem q61_0 : qD 61 0 (.aload_n 0) 1 1 ∧ ((0 : Fin 4) : Nat) = 0 := by decide +kernel
theorem q61_1 : qG 61 1 9 4 7 0 236 2 := by decide +kernel
theorem q61_4 : qD 61 4 (.bipush 7) 2 6 ∧ (Int8.ofInt (7)).toInt32 = (7 : Int32) := by decide +kernel
theorem q61_6 : qD 61 6 (.iload_n 1) 1 7 ∧ ((1 : Fin 4) : Nat) = 1 := by decide +kernel
theorem q61_7 : qD 61 7 (.iadd) 1 8 := by decide +kernel
theorem q61_8 : qD 61 8 (.iaload) 1 9 := by decide +kernel
theorem q61_9 : qD 61 9 (.iload_n 3) 1 10 ∧ ((3 : Fin 4) : Nat) = 3 := by decide +kernel
theorem q61_10 : qJ 61 10 (.if_icmp .lt 29) 13 (29) 39 := by decide +kernel
theorem q61_13 : qD 61 13 (.aload_n 0) 1 14 ∧ ((0 : Fin 4) : Nat) = 0 := by decide +kernel
theorem q61_14 : qG 61 14 9 17 7 0 236 2 := by decide +kernel
theorem q61_17 : qD 61 17 (.bipush 7) 2 19 ∧ (Int8.ofInt (7)).toInt32 = (7 : Int32) := by decide +kernel
theorem q61_19 : qD 61 19 (.iload_n 1) 1 20 ∧ ((1 : Fin 4) : Nat) = 1 := by decide +kernel
theorem q61_20 : qD 61 20 (.iadd) 1 21 := by decide +kernel
theorem q61_21 : qD 61 21 (.dup2) 1 22 := by decide +kernel
theorem q61_22 : qD 61 22 (.iaload) 1 23 := by decide +kernel
theorem q61_23 : qD 61 23 (.iload_n 3) 1 24 ∧ ((3 : Fin 4) : Nat) = 3 := by decide +kernel
theorem q61_24 : qD 61 24 (.isub) 1 25 := by decide +kernel
theorem q61_25 : qD 61 25 (.iastore) 1 26 := by decide +kernel
theorem q61_26 : qD 61 26 (.aload_n 0) 1 27 ∧ ((0 : Fin 4) : Nat) = 0 := by decide +kernel
theorem q61_27 : qG 61 27 9 30 7 0 236 2 := by decide +kernel
theorem q61_30 : qD 61 30 (.bipush 7) 2 32 ∧ (Int8.ofInt (7)).toInt32 = (7 : Int32) := by decide +kernel
theorem q61_32 : qD 61 32 (.iload_n 2) 1 33 ∧ ((2 : Fin 4) : Nat) = 2 := by decide +kernel
theorem q61_33 : qD 61 33 (.iadd) 1 34 := by decide +kernel
theorem q61_34 : qD 61 34 (.dup2) 1 35 := by decide +kernel
theorem q61_35 : qD 61 35 (.iaload) 1 36 := by decide +kernel
theorem q61_36 : qD 61 36 (.iload_n 3) 1 37 ∧ ((3 : Fin 4) : Nat) = 3 := by decide +kernel
theorem q61_37 : qD 61 37 (.iadd) 1 38 := by decide +kernel
theorem q61_38 : qD 61 38 (.iastore) 1 39 := by decide +kernel
theorem q61_39 : qD 61 39 (.return_) 1 40 ∧ mR 61 = none := by decide +kernel
theorem q62_0 : qD 62 0 (.aload_n 0) 1 1 ∧ ((0 : Fin 4) : Nat) = 0 := by decide +kernel
theorem q62_1 : qG 62 1 9 4 7 0 236 2 := by decide +kernel
theorem q62_4 : qD 62 4 (.bipush 21) 2 6 ∧ (Int8.ofInt (21)).toInt32 = (21 : Int32) := by decide +kernel
theorem q62_6 : qD 62 6 (.iload_n 1) 1 7 ∧ ((1 : Fin 4) : Nat) = 1 := by decide +kernel
theorem q62_7 : qD 62 7 (.iadd) 1 8 := by decide +kernel
theorem q62_8 : qD 62 8 (.dup2) 1 9 := by decide +kernel
theorem q62_9 : qD 62 9 (.iaload) 1 10 := by decide +kernel
theorem q62_10 : qD 62 10 (.aload_n 0) 1 11 ∧ ((0 : Fin 4) : Nat) = 0 := by decide +kernel
theorem q62_11 : qG 62 11 9 14 7 0 236 2 := by decide +kernel
theorem q62_14 : qD 62 14 (.bipush 28) 2 16 ∧ (Int8.ofInt (28)).toInt32 = (28 : Int32) := by decide +kernel
theorem q62_16 : qD 62 16 (.iaload) 1 17 := by decide +kernel
theorem q62_17 : qD 62 17 (.ior) 1 18 := by decide +kernel
theorem q62_18 : qD 62 18 (.iastore) 1 19 := by decide +kernel
theorem q62_19 : qD 62 19 (.iconst 0) 1 20 ∧ Int32.ofInt (0) = (0 : Int32) := by decide +kernel
theorem q62_20 : qD 62 20 (.istore 4) 2 22 ∧ 4 < mL 62 := by decide +kernel
theorem q62_22 : qD 62 22 (.iload 4) 2 24 := by decide +kernel
theorem q62_24 : qD 62 24 (.iload_n 3) 1 25 ∧ ((3 : Fin 4) : Nat) = 3 := by decide +kernel
theorem q62_25 : qJ 62 25 (.if_icmp .ge 40) 28 (40) 65 := by decide +kernel
theorem q62_28 : qD 62 28 (.aload_n 0) 1 29 ∧ ((0 : Fin 4) : Nat) = 0 := by decide +kernel
theorem q62_29 : qG 62 29 9 32 7 0 236 2 := by decide +kernel
theorem q62_32 : qD 62 32 (.bipush 21) 2 34 ∧ (Int8.ofInt (21)).toInt32 = (21 : Int32) := by decide +kernel
theorem q62_34 : qD 62 34 (.iload 4) 2 36 := by decide +kernel
theorem q62_36 : qD 62 36 (.iadd) 1 37 := by decide +kernel
theorem q62_37 : qD 62 37 (.dup2) 1 38 := by decide +kernel
theorem q62_38 : qD 62 38 (.iaload) 1 39 := by decide +kernel
theorem q62_39 : qD 62 39 (.aload_n 0) 1 40 ∧ ((0 : Fin 4) : Nat) = 0 := by decide +kernel
theorem q62_40 : qG 62 40 9 43 7 0 236 2 := by decide +kernel
theorem q62_43 : qD 62 43 (.bipush 28) 2 45 ∧ (Int8.ofInt (28)).toInt32 = (28 : Int32) := by decide +kernel
theorem q62_45 : qD 62 45 (.iaload) 1 46 := by decide +kernel
theorem q62_46 : qD 62 46 (.aload_n 0) 1 47 ∧ ((0 : Fin 4) : Nat) = 0 := by decide +kernel
theorem q62_47 : qG 62 47 9 50 7 0 236 2 := by decide +kernel
theorem q62_50 : qD 62 50 (.bipush 14) 2 52 ∧ (Int8.ofInt (14)).toInt32 = (14 : Int32) := by decide +kernel
theorem q62_52 : qD 62 52 (.iload 4) 2 54 := by decide +kernel
theorem q62_54 : qD 62 54 (.iadd) 1 55 := by decide +kernel
theorem q62_55 : qD 62 55 (.iaload) 1 56 := by decide +kernel
theorem q62_56 : qD 62 56 (.iand) 1 57 := by decide +kernel
theorem q62_57 : qD 62 57 (.ior) 1 58 := by decide +kernel
theorem q62_58 : qD 62 58 (.iastore) 1 59 := by decide +kernel
theorem q62_59 : qD 62 59 (.iinc 4 1) 3 62 ∧ 4 < mL 62 ∧ Int32.ofInt (1) = (1 : Int32) := by decide +kernel
theorem q62_62 : qJ 62 62 (.goto (-40)) 65 (-40) 22 := by decide +kernel
theorem q62_65 : qD 62 65 (.aload_n 0) 1 66 ∧ ((0 : Fin 4) : Nat) = 0 := by decide +kernel
theorem q62_66 : qG 62 66 9 69 7 0 236 2 := by decide +kernel
theorem q62_69 : qD 62 69 (.bipush 29) 2 71 ∧ (Int8.ofInt (29)).toInt32 = (29 : Int32) := by decide +kernel
theorem q62_71 : qD 62 71 (.iload_n 2) 1 72 ∧ ((2 : Fin 4) : Nat) = 2 := by decide +kernel
theorem q62_72 : qD 62 72 (.iastore) 1 73 := by decide +kernel
theorem q62_73 : qD 62 73 (.aload_n 0) 1 74 ∧ ((0 : Fin 4) : Nat) = 0 := by decide +kernel
theorem q62_74 : qG 62 74 9 77 7 0 236 2 := by decide +kernel
theorem q62_77 : qD 62 77 (.bipush 30) 2 79 ∧ (Int8.ofInt (30)).toInt32 = (30 : Int32) := by decide +kernel
theorem q62_79 : qD 62 79 (.iconst 1) 1 80 ∧ Int32.ofInt (1) = (1 : Int32) := by decide +kernel
theorem q62_80 : qD 62 80 (.iastore) 1 81 := by decide +kernel
theorem q62_81 : qD 62 81 (.return_) 1 82 ∧ mR 62 = none := by decide +kernel
theorem q63_0 : qD 63 0 (.iconst 0) 1 1 ∧ Int32.ofInt (0) = (0 : Int32) := by decide +kernel
theorem q63_1 : qD 63 1 (.istore_n 1) 1 2 ∧ ((1 : Fin 4) : Nat) = 1 ∧ 1 < mL 63 := by decide +kernel
theorem q63_2 : qD 63 2 (.iload_n 1) 1 3 ∧ ((1 : Fin 4) : Nat) = 1 := by decide +kernel
theorem q63_3 : qD 63 3 (.bipush 7) 2 5 ∧ (Int8.ofInt (7)).toInt32 = (7 : Int32) := by decide +kernel
theorem q63_5 : qJ 63 5 (.if_icmp .ge 19) 8 (19) 24 := by decide +kernel
theorem q63_8 : qD 63 8 (.aload_n 0) 1 9 ∧ ((0 : Fin 4) : Nat) = 0 := by decide +kernel
theorem q63_9 : qG 63 9 9 12 7 0 236 2 := by decide +kernel
theorem q63_12 : qD 63 12 (.bipush 21) 2 14 ∧ (Int8.ofInt (21)).toInt32 = (21 : Int32) := by decide +kernel
theorem q63_14 : qD 63 14 (.iload_n 1) 1 15 ∧ ((1 : Fin 4) : Nat) = 1 := by decide +kernel
theorem q63_15 : qD 63 15 (.iadd) 1 16 := by decide +kernel
theorem q63_16 : qD 63 16 (.iconst 0) 1 17 ∧ Int32.ofInt (0) = (0 : Int32) := by decide +kernel
theorem q63_17 : qD 63 17 (.iastore) 1 18 := by decide +kernel
theorem q63_18 : qD 63 18 (.iinc 1 1) 3 21 ∧ 1 < mL 63 ∧ Int32.ofInt (1) = (1 : Int32) := by decide +kernel
theorem q63_21 : qJ 63 21 (.goto (-19)) 24 (-19) 2 := by decide +kernel
theorem q63_24 : qD 63 24 (.aload_n 0) 1 25 ∧ ((0 : Fin 4) : Nat) = 0 := by decide +kernel
theorem q63_25 : qG 63 25 9 28 7 0 236 2 := by decide +kernel
theorem q63_28 : qD 63 28 (.bipush 28) 2 30 ∧ (Int8.ofInt (28)).toInt32 = (28 : Int32) := by decide +kernel
theorem q63_30 : qD 63 30 (.iconst 0) 1 31 ∧ Int32.ofInt (0) = (0 : Int32) := by decide +kernel
theorem q63_31 : qD 63 31 (.iastore) 1 32 := by decide +kernel
theorem q63_32 : qD 63 32 (.aload_n 0) 1 33 ∧ ((0 : Fin 4) : Nat) = 0 := by decide +kernel
theorem q63_33 : qG 63 33 9 36 7 0 236 2 := by decide +kernel
theorem q63_36 : qD 63 36 (.bipush 29) 2 38 ∧ (Int8.ofInt (29)).toInt32 = (29 : Int32) := by decide +kernel
theorem q63_38 : qD 63 38 (.iconst 0) 1 39 ∧ Int32.ofInt (0) = (0 : Int32) := by decide +kernel
theorem q63_39 : qD 63 39 (.iastore) 1 40 := by decide +kernel
theorem q63_40 : qD 63 40 (.aload_n 0) 1 41 ∧ ((0 : Fin 4) : Nat) = 0 := by decide +kernel
theorem q63_41 : qG 63 41 9 44 7 0 236 2 := by decide +kernel
theorem q63_44 : qD 63 44 (.bipush 30) 2 46 ∧ (Int8.ofInt (30)).toInt32 = (30 : Int32) := by decide +kernel
theorem q63_46 : qD 63 46 (.iconst 0) 1 47 ∧ Int32.ofInt (0) = (0 : Int32) := by decide +kernel
theorem q63_47 : qD 63 47 (.iastore) 1 48 := by decide +kernel
theorem q63_48 : qD 63 48 (.aload_n 0) 1 49 ∧ ((0 : Fin 4) : Nat) = 0 := by decide +kernel
theorem q63_49 : qG 63 49 9 52 7 0 236 2 := by decide +kernel
theorem q63_52 : qD 63 52 (.bipush 32) 2 54 ∧ (Int8.ofInt (32)).toInt32 = (32 : Int32) := by decide +kernel
theorem q63_54 : qD 63 54 (.dup2) 1 55 := by decide +kernel
theorem q63_55 : qD 63 55 (.iaload) 1 56 := by decide +kernel
theorem q63_56 : qD 63 56 (.iconst 1) 1 57 ∧ Int32.ofInt (1) = (1 : Int32) := by decide +kernel
theorem q63_57 : qD 63 57 (.iadd) 1 58 := by decide +kernel
theorem q63_58 : qD 63 58 (.iastore) 1 59 := by decide +kernel
theorem q63_59 : qD 63 59 (.return_) 1 60 ∧ mR 63 = none := by decide +kernel
theorem q80_0 : qD 80 0 (.aload_n 0) 1 1 ∧ ((0 : Fin 4) : Nat) = 0 := by decide +kernel
theorem q80_1 : qD 80 1 (.invokespecial 3) 3 4 ∧ inG 294 (.methodLink (mN 80).cls 3 Lib.objectInit) := by decide +kernel
theorem q80_4 : qD 80 4 (.aload_n 0) 1 5 ∧ ((0 : Fin 4) : Nat) = 0 := by decide +kernel
theorem q80_5 : qD 80 5 (.bipush 7) 2 7 ∧ (Int8.ofInt (7)).toInt32 = (7 : Int32) := by decide +kernel
theorem q80_7 : qD 80 7 (.newarray .int) 2 9 ∧ (100 = 100 ∨ 100 = 101 ∨ 100 = 102 ∨ 100 = 103) ∧ newarray.typeOf .int = kty 100 ∧ inG 165 (.arrayClass (kty 100)) := by decide +kernel
theorem q80_9 : qP 80 9 9 12 9 0 295 2 := by decide +kernel
theorem q80_12 : qD 80 12 (.aload_n 0) 1 13 ∧ ((0 : Fin 4) : Nat) = 0 := by decide +kernel
theorem q80_13 : qD 80 13 (.bipush 7) 2 15 ∧ (Int8.ofInt (7)).toInt32 = (7 : Int32) := by decide +kernel
theorem q80_15 : qD 80 15 (.newarray .int) 2 17 ∧ (100 = 100 ∨ 100 = 101 ∨ 100 = 102 ∨ 100 = 103) ∧ newarray.typeOf .int = kty 100 ∧ inG 165 (.arrayClass (kty 100)) := by decide +kernel
theorem q80_17 : qP 80 17 15 20 9 1 296 2 := by decide +kernel
theorem q80_20 : qD 80 20 (.return_) 1 21 ∧ mR 80 = none := by decide +kernel
theorem q81_0 : qD 81 0 (.aload_n 0) 1 1 ∧ ((0 : Fin 4) : Nat) = 0 := by decide +kernel
theorem q81_1 : qG 81 1 9 4 9 0 295 2 := by decide +kernel
theorem q81_4 : qD 81 4 (.iconst 0) 1 5 ∧ Int32.ofInt (0) = (0 : Int32) := by decide +kernel
theorem q81_5 : qD 81 5 (.invokestatic 18) 3 8 ∧ qI 81 18 322 686 := by decide +kernel
theorem q81_8 : qD 81 8 (.aload_n 0) 1 9 ∧ ((0 : Fin 4) : Nat) = 0 := by decide +kernel
theorem q81_9 : qG 81 9 15 12 9 1 296 2 := by decide +kernel
theorem q81_12 : qD 81 12 (.iconst 0) 1 13 ∧ Int32.ofInt (0) = (0 : Int32) := by decide +kernel
theorem q81_13 : qD 81 13 (.invokestatic 18) 3 16 ∧ qI 81 18 322 686 := by decide +kernel
theorem q81_16 : qD 81 16 (.aload_n 0) 1 17 ∧ ((0 : Fin 4) : Nat) = 0 := by decide +kernel
theorem q81_17 : qD 81 17 (.iconst 0) 1 18 ∧ Int32.ofInt (0) = (0 : Int32) := by decide +kernel
theorem q81_18 : qP 81 18 24 21 9 2 297 0 := by decide +kernel
theorem q81_21 : qD 81 21 (.return_) 1 22 ∧ mR 81 = none := by decide +kernel
theorem q82_0 : qD 82 0 (.iload_n 3) 1 1 ∧ ((3 : Fin 4) : Nat) = 3 := by decide +kernel
theorem q82_1 : qJ 82 1 (.ifCond .eq 18) 4 (18) 19 := by decide +kernel
theorem q82_4 : qD 82 4 (.aload_n 0) 1 5 ∧ ((0 : Fin 4) : Nat) = 0 := by decide +kernel
theorem q82_5 : qG 82 5 9 8 9 0 295 2 := by decide +kernel
theorem q82_8 : qD 82 8 (.iload_n 1) 1 9 ∧ ((1 : Fin 4) : Nat) = 1 := by decide +kernel
theorem q82_9 : qD 82 9 (.dup2) 1 10 := by decide +kernel
theorem q82_10 : qD 82 10 (.iaload) 1 11 := by decide +kernel
theorem q82_11 : qD 82 11 (.iconst 1) 1 12 ∧ Int32.ofInt (1) = (1 : Int32) := by decide +kernel
theorem q82_12 : qD 82 12 (.iload_n 2) 1 13 ∧ ((2 : Fin 4) : Nat) = 2 := by decide +kernel
theorem q82_13 : qD 82 13 (.ishl) 1 14 := by decide +kernel
theorem q82_14 : qD 82 14 (.ior) 1 15 := by decide +kernel
theorem q82_15 : qD 82 15 (.iastore) 1 16 := by decide +kernel
theorem q82_16 : qJ 82 16 (.goto 15) 19 (15) 31 := by decide +kernel
theorem q82_19 : qD 82 19 (.aload_n 0) 1 20 ∧ ((0 : Fin 4) : Nat) = 0 := by decide +kernel
theorem q82_20 : qG 82 20 15 23 9 1 296 2 := by decide +kernel
theorem q82_23 : qD 82 23 (.iload_n 1) 1 24 ∧ ((1 : Fin 4) : Nat) = 1 := by decide +kernel
theorem q82_24 : qD 82 24 (.dup2) 1 25 := by decide +kernel
theorem q82_25 : qD 82 25 (.iaload) 1 26 := by decide +kernel
theorem q82_26 : qD 82 26 (.iconst 1) 1 27 ∧ Int32.ofInt (1) = (1 : Int32) := by decide +kernel
theorem q82_27 : qD 82 27 (.iload_n 2) 1 28 ∧ ((2 : Fin 4) : Nat) = 2 := by decide +kernel
theorem q82_28 : qD 82 28 (.ishl) 1 29 := by decide +kernel
theorem q82_29 : qD 82 29 (.ior) 1 30 := by decide +kernel
theorem q82_30 : qD 82 30 (.iastore) 1 31 := by decide +kernel
theorem q82_31 : qD 82 31 (.aload_n 0) 1 32 ∧ ((0 : Fin 4) : Nat) = 0 := by decide +kernel
theorem q82_32 : qD 82 32 (.dup) 1 33 := by decide +kernel
theorem q82_33 : qG 82 33 24 36 9 2 297 0 := by decide +kernel
theorem q82_36 : qD 82 36 (.iconst 1) 1 37 ∧ Int32.ofInt (1) = (1 : Int32) := by decide +kernel
theorem q82_37 : qD 82 37 (.iadd) 1 38 := by decide +kernel
theorem q82_38 : qP 82 38 24 41 9 2 297 0 := by decide +kernel
theorem q82_41 : qD 82 41 (.return_) 1 42 ∧ mR 82 = none := by decide +kernel
theorem q83_0 : qD 83 0 (.aload_n 0) 1 1 ∧ ((0 : Fin 4) : Nat) = 0 := by decide +kernel
theorem q83_1 : qG 83 1 9 4 9 0 295 2 := by decide +kernel
theorem q83_4 : qD 83 4 (.iload_n 1) 1 5 ∧ ((1 : Fin 4) : Nat) = 1 := by decide +kernel
theorem q83_5 : qD 83 5 (.iaload) 1 6 := by decide +kernel
theorem q83_6 : qD 83 6 (.aload_n 0) 1 7 ∧ ((0 : Fin 4) : Nat) = 0 := by decide +kernel
theorem q83_7 : qG 83 7 15 10 9 1 296 2 := by decide +kernel
theorem q83_10 : qD 83 10 (.iload_n 1) 1 11 ∧ ((1 : Fin 4) : Nat) = 1 := by decide +kernel
theorem q83_11 : qD 83 11 (.iaload) 1 12 := by decide +kernel
theorem q83_12 : qD 83 12 (.ior) 1 13 := by decide +kernel
theorem q83_13 : qJ 83 13 (.ifCond .eq 7) 16 (7) 20 := by decide +kernel
theorem q83_16 : qD 83 16 (.iconst 1) 1 17 ∧ Int32.ofInt (1) = (1 : Int32) := by decide +kernel
theorem q83_17 : qJ 83 17 (.goto 4) 20 (4) 21 := by decide +kernel
theorem q83_20 : qD 83 20 (.iconst 0) 1 21 ∧ Int32.ofInt (0) = (0 : Int32) := by decide +kernel
theorem q83_21 : qD 83 21 (.ireturn) 1 22 ∧ mR 83 = some .boolean := by decide +kernel
theorem q84_0 : qD 84 0 (.aload_n 0) 1 1 ∧ ((0 : Fin 4) : Nat) = 0 := by decide +kernel
theorem q84_1 : qG 84 1 9 4 9 0 295 2 := by decide +kernel
theorem q84_4 : qD 84 4 (.iload_n 1) 1 5 ∧ ((1 : Fin 4) : Nat) = 1 := by decide +kernel
theorem q84_5 : qD 84 5 (.iaload) 1 6 := by decide +kernel
theorem q84_6 : qD 84 6 (.iload_n 2) 1 7 ∧ ((2 : Fin 4) : Nat) = 2 := by decide +kernel
theorem q84_7 : qD 84 7 (.iconst (-1)) 1 8 ∧ Int32.ofInt (-1) = (-1 : Int32) := by decide +kernel
theorem q84_8 : qD 84 8 (.ixor) 1 9 := by decide +kernel
theorem q84_9 : qD 84 9 (.iand) 1 10 := by decide +kernel
theorem q84_10 : qD 84 10 (.aload_n 0) 1 11 ∧ ((0 : Fin 4) : Nat) = 0 := by decide +kernel
theorem q84_11 : qG 84 11 15 14 9 1 296 2 := by decide +kernel
theorem q84_14 : qD 84 14 (.iload_n 1) 1 15 ∧ ((1 : Fin 4) : Nat) = 1 := by decide +kernel
theorem q84_15 : qD 84 15 (.iaload) 1 16 := by decide +kernel
theorem q84_16 : qD 84 16 (.iload_n 2) 1 17 ∧ ((2 : Fin 4) : Nat) = 2 := by decide +kernel
theorem q84_17 : qD 84 17 (.iand) 1 18 := by decide +kernel
theorem q84_18 : qD 84 18 (.ior) 1 19 := by decide +kernel
theorem q84_19 : qJ 84 19 (.ifCond .eq 7) 22 (7) 26 := by decide +kernel
theorem q84_22 : qD 84 22 (.iconst 1) 1 23 ∧ Int32.ofInt (1) = (1 : Int32) := by decide +kernel
theorem q84_23 : qJ 84 23 (.goto 4) 26 (4) 27 := by decide +kernel
theorem q84_26 : qD 84 26 (.iconst 0) 1 27 ∧ Int32.ofInt (0) = (0 : Int32) := by decide +kernel
theorem q84_27 : qD 84 27 (.ireturn) 1 28 ∧ mR 84 = some .boolean := by decide +kernel
theorem q85_0 : qD 85 0 (.iconst 0) 1 1 ∧ Int32.ofInt (0) = (0 : Int32) := by decide +kernel
theorem q85_1 : qD 85 1 (.istore_n 2) 1 2 ∧ ((2 : Fin 4) : Nat) = 2 ∧ 2 < mL 85 := by decide +kernel
theorem q85_2 : qD 85 2 (.iconst 0) 1 3 ∧ Int32.ofInt (0) = (0 : Int32) := by decide +kernel
theorem q85_3 : qD 85 3 (.istore_n 3) 1 4 ∧ ((3 : Fin 4) : Nat) = 3 ∧ 3 < mL 85 := by decide +kernel
theorem q85_4 : qD 85 4 (.iload_n 3) 1 5 ∧ ((3 : Fin 4) : Nat) = 3 := by decide +kernel
theorem q85_5 : qD 85 5 (.bipush 7) 2 7 ∧ (Int8.ofInt (7)).toInt32 = (7 : Int32) := by decide +kernel
theorem q85_7 : qJ 85 7 (.if_icmp .ge 28) 10 (28) 35 := by decide +kernel
theorem q85_10 : qD 85 10 (.iload_n 2) 1 11 ∧ ((2 : Fin 4) : Nat) = 2 := by decide +kernel
theorem q85_11 : qD 85 11 (.aload_n 0) 1 12 ∧ ((0 : Fin 4) : Nat) = 0 := by decide +kernel
theorem q85_12 : qD 85 12 (.iload_n 3) 1 13 ∧ ((3 : Fin 4) : Nat) = 3 := by decide +kernel
theorem q85_13 : qD 85 13 (.iload_n 1) 1 14 ∧ ((1 : Fin 4) : Nat) = 1 := by decide +kernel
theorem q85_14 : qD 85 14 (.invokevirtual 28) 3 17 ∧ qI 85 28 84 1130 := by decide +kernel
theorem q85_17 : qJ 85 17 (.ifCond .eq 9) 20 (9) 26 := by decide +kernel
theorem q85_20 : qD 85 20 (.iconst 1) 1 21 ∧ Int32.ofInt (1) = (1 : Int32) := by decide +kernel
theorem q85_21 : qD 85 21 (.iload_n 3) 1 22 ∧ ((3 : Fin 4) : Nat) = 3 := by decide +kernel
theorem q85_22 : qD 85 22 (.ishl) 1 23 := by decide +kernel
theorem q85_23 : qJ 85 23 (.goto 4) 26 (4) 27 := by decide +kernel
theorem q85_26 : qD 85 26 (.iconst 0) 1 27 ∧ Int32.ofInt (0) = (0 : Int32) := by decide +kernel
theorem q85_27 : qD 85 27 (.ior) 1 28 := by decide +kernel
theorem q85_28 : qD 85 28 (.istore_n 2) 1 29 ∧ ((2 : Fin 4) : Nat) = 2 ∧ 2 < mL 85 := by decide +kernel
theorem q85_29 : qD 85 29 (.iinc 3 1) 3 32 ∧ 3 < mL 85 ∧ Int32.ofInt (1) = (1 : Int32) := by decide +kernel
theorem q85_32 : qJ 85 32 (.goto (-28)) 35 (-28) 4 := by decide +kernel
theorem q85_35 : qD 85 35 (.iload_n 2) 1 36 ∧ ((2 : Fin 4) : Nat) = 2 := by decide +kernel
theorem q85_36 : qD 85 36 (.ireturn) 1 37 ∧ mR 85 = some .int := by decide +kernel
