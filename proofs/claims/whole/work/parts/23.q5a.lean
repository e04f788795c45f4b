theorem q33_0 : qD 33 0 (.aload_n 0) 1 1 ∧ ((0 : Fin 4) : Nat) = 0 := by decide +kernel
theorem q33_1 : qD 33 1 (.invokespecial 3) 3 4 ∧ inG 206 (.methodLink (mN 33).cls 3 Lib.objectInit) := by decide +kernel
theorem q33_4 : qD 33 4 (.aload_n 0) 1 5 ∧ ((0 : Fin 4) : Nat) = 0 := by decide +kernel
theorem q33_5 : qD 33 5 (.sipush 241) 3 8 ∧ (Int16.ofInt (241)).toInt32 = (241 : Int32) := by decide +kernel
theorem q33_8 : qD 33 8 (.newarray .int) 2 10 ∧ (100 = 100 ∨ 100 = 101 ∨ 100 = 102 ∨ 100 = 103) ∧ newarray.typeOf .int = kty 100 ∧ inG 165 (.arrayClass (kty 100)) := by decide +kernel
theorem q33_10 : qP 33 10 11 13 5 0 207 2 := by decide +kernel
theorem q33_13 : qD 33 13 (.aload_n 0) 1 14 ∧ ((0 : Fin 4) : Nat) = 0 := by decide +kernel
theorem q33_14 : qD 33 14 (.bipush 32) 2 16 ∧ (Int8.ofInt (32)).toInt32 = (32 : Int32) := by decide +kernel
theorem q33_16 : qD 33 16 (.newarray .int) 2 18 ∧ (100 = 100 ∨ 100 = 101 ∨ 100 = 102 ∨ 100 = 103) ∧ newarray.typeOf .int = kty 100 ∧ inG 165 (.arrayClass (kty 100)) := by decide +kernel
theorem q33_18 : qP 33 18 15 21 5 1 208 2 := by decide +kernel
theorem q33_21 : qD 33 21 (.return_) 1 22 ∧ mR 33 = none := by decide +kernel
theorem q34_0 : qD 34 0 (.aload_n 0) 1 1 ∧ ((0 : Fin 4) : Nat) = 0 := by decide +kernel
theorem q34_1 : qD 34 1 (.iconst 0) 1 2 ∧ Int32.ofInt (0) = (0 : Int32) := by decide +kernel
theorem q34_2 : qP 34 2 18 5 5 2 209 0 := by decide +kernel
theorem q34_5 : qD 34 5 (.iconst 0) 1 6 ∧ Int32.ofInt (0) = (0 : Int32) := by decide +kernel
theorem q34_6 : qD 34 6 (.istore_n 2) 1 7 ∧ ((2 : Fin 4) : Nat) = 2 ∧ 2 < mL 34 := by decide +kernel
theorem q34_7 : qD 34 7 (.iload_n 2) 1 8 ∧ ((2 : Fin 4) : Nat) = 2 := by decide +kernel
theorem q34_8 : qD 34 8 (.sipush 240) 3 11 ∧ (Int16.ofInt (240)).toInt32 = (240 : Int32) := by decide +kernel
theorem q34_11 : qJ 34 11 (.if_icmp .ge 32) 14 (32) 43 := by decide +kernel
theorem q34_14 : qD 34 14 (.aload_n 0) 1 15 ∧ ((0 : Fin 4) : Nat) = 0 := by decide +kernel
theorem q34_15 : qD 34 15 (.aload_n 1) 1 16 ∧ ((1 : Fin 4) : Nat) = 1 := by decide +kernel
theorem q34_16 : qD 34 16 (.invokevirtual 22) 3 19 ∧ qI 34 22 35 587 := by decide +kernel
theorem q34_19 : qD 34 19 (.aload_n 0) 1 20 ∧ ((0 : Fin 4) : Nat) = 0 := by decide +kernel
theorem q34_20 : qD 34 20 (.bipush (-59)) 2 22 ∧ (Int8.ofInt (-59)).toInt32 = (-59 : Int32) := by decide +kernel
theorem q34_22 : qD 34 22 (.invokevirtual 26) 3 25 ∧ qI 34 26 44 614 := by decide +kernel
theorem q34_25 : qD 34 25 (.aload_n 1) 1 26 ∧ ((1 : Fin 4) : Nat) = 1 := by decide +kernel
theorem q34_26 : qD 34 26 (.bipush 59) 2 28 ∧ (Int8.ofInt (59)).toInt32 = (59 : Int32) := by decide +kernel
theorem q34_28 : qD 34 28 (.invokevirtual 30) 3 31 ∧ qI 34 30 71 638 := by decide +kernel
theorem q34_31 : qJ 34 31 (.ifCond .ne 6) 34 (6) 37 := by decide +kernel
theorem q34_34 : qJ 34 34 (.goto 9) 37 (9) 43 := by decide +kernel
theorem q34_37 : qD 34 37 (.iinc 2 1) 3 40 ∧ 2 < mL 34 ∧ Int32.ofInt (1) = (1 : Int32) := by decide +kernel
theorem q34_40 : qJ 34 40 (.goto (-33)) 43 (-33) 7 := by decide +kernel
theorem q34_43 : qD 34 43 (.aload_n 1) 1 44 ∧ ((1 : Fin 4) : Nat) = 1 := by decide +kernel
theorem q34_44 : qD 34 44 (.invokevirtual 36) 3 47 ∧ qI 34 36 73 639 := by decide +kernel
theorem q34_47 : qD 34 47 (.return_) 1 48 ∧ mR 34 = none := by decide +kernel
theorem q35_0 : qD 35 0 (.aload_n 1) 1 1 ∧ ((1 : Fin 4) : Nat) = 1 := by decide +kernel
theorem q35_1 : qD 35 1 (.bipush 121) 2 3 ∧ (Int8.ofInt (121)).toInt32 = (121 : Int32) := by decide +kernel
theorem q35_3 : qD 35 3 (.invokevirtual 39) 3 6 ∧ qI 35 39 72 591 := by decide +kernel
theorem q35_6 : qD 35 6 (.aload_n 1) 1 7 ∧ ((1 : Fin 4) : Nat) = 1 := by decide +kernel
theorem q35_7 : qD 35 7 (.bipush 58) 2 9 ∧ (Int8.ofInt (58)).toInt32 = (58 : Int32) := by decide +kernel
theorem q35_9 : qD 35 9 (.invokevirtual 39) 3 12 ∧ qI 35 39 72 591 := by decide +kernel
theorem q35_12 : qD 35 12 (.aload_n 1) 1 13 ∧ ((1 : Fin 4) : Nat) = 1 := by decide +kernel
theorem q35_13 : qD 35 13 (.invokevirtual 42) 3 16 ∧ qI 35 42 69 596 := by decide +kernel
theorem q35_16 : qD 35 16 (.istore_n 2) 1 17 ∧ ((2 : Fin 4) : Nat) = 2 ∧ 2 < mL 35 := by decide +kernel
theorem q35_17 : qD 35 17 (.iload_n 2) 1 18 ∧ ((2 : Fin 4) : Nat) = 2 := by decide +kernel
theorem q35_18 : qD 35 18 (.bipush 33) 2 20 ∧ (Int8.ofInt (33)).toInt32 = (33 : Int32) := by decide +kernel
theorem q35_20 : qJ 35 20 (.if_icmp .eq 13) 23 (13) 33 := by decide +kernel
theorem q35_23 : qD 35 23 (.iload_n 2) 1 24 ∧ ((2 : Fin 4) : Nat) = 2 := by decide +kernel
theorem q35_24 : qD 35 24 (.bipush 40) 2 26 ∧ (Int8.ofInt (40)).toInt32 = (40 : Int32) := by decide +kernel
theorem q35_26 : qJ 35 26 (.if_icmp .eq 7) 29 (7) 33 := by decide +kernel
theorem q35_29 : qD 35 29 (.iconst 1) 1 30 ∧ Int32.ofInt (1) = (1 : Int32) := by decide +kernel
theorem q35_30 : qJ 35 30 (.goto 4) 33 (4) 34 := by decide +kernel
theorem q35_33 : qD 35 33 (.iconst 0) 1 34 ∧ Int32.ofInt (0) = (0 : Int32) := by decide +kernel
theorem q35_34 : qD 35 34 (.istore_n 3) 1 35 ∧ ((3 : Fin 4) : Nat) = 3 ∧ 3 < mL 35 := by decide +kernel
theorem q35_35 : qD 35 35 (.iload_n 3) 1 36 ∧ ((3 : Fin 4) : Nat) = 3 := by decide +kernel
theorem q35_36 : qJ 35 36 (.ifCond .eq 20) 39 (20) 56 := by decide +kernel
theorem q35_39 : qD 35 39 (.aload_n 0) 1 40 ∧ ((0 : Fin 4) : Nat) = 0 := by decide +kernel
theorem q35_40 : qD 35 40 (.aload_n 1) 1 41 ∧ ((1 : Fin 4) : Nat) = 1 := by decide +kernel
theorem q35_41 : qD 35 41 (.iconst 0) 1 42 ∧ Int32.ofInt (0) = (0 : Int32) := by decide +kernel
theorem q35_42 : qD 35 42 (.invokevirtual 46) 3 45 ∧ qI 35 46 39 597 := by decide +kernel
theorem q35_45 : qD 35 45 (.aload_n 1) 1 46 ∧ ((1 : Fin 4) : Nat) = 1 := by decide +kernel
theorem q35_46 : qD 35 46 (.invokevirtual 42) 3 49 ∧ qI 35 42 69 596 := by decide +kernel
theorem q35_49 : qD 35 49 (.invokestatic 50) 3 52 ∧ qI 35 50 43 623 := by decide +kernel
theorem q35_52 : qJ 35 52 (.ifCond .ne 4) 55 (4) 56 := by decide +kernel
theorem q35_55 : qD 35 55 (.return_) 1 56 ∧ mR 35 = none := by decide +kernel
theorem q35_56 : qD 35 56 (.aload_n 0) 1 57 ∧ ((0 : Fin 4) : Nat) = 0 := by decide +kernel
theorem q35_57 : qD 35 57 (.aload_n 1) 1 58 ∧ ((1 : Fin 4) : Nat) = 1 := by decide +kernel
theorem q35_58 : qD 35 58 (.iconst 0) 1 59 ∧ Int32.ofInt (0) = (0 : Int32) := by decide +kernel
theorem q35_59 : qD 35 59 (.iload_n 3) 1 60 ∧ ((3 : Fin 4) : Nat) = 3 := by decide +kernel
theorem q35_60 : qD 35 60 (.invokevirtual 53) 3 63 ∧ qI 35 53 36 626 := by decide +kernel
theorem q35_63 : qD 35 63 (.aload_n 1) 1 64 ∧ ((1 : Fin 4) : Nat) = 1 := by decide +kernel
theorem q35_64 : qD 35 64 (.bipush 63) 2 66 ∧ (Int8.ofInt (63)).toInt32 = (63 : Int32) := by decide +kernel
theorem q35_66 : qD 35 66 (.invokevirtual 39) 3 69 ∧ qI 35 39 72 591 := by decide +kernel
theorem q35_69 : qD 35 69 (.aload_n 0) 1 70 ∧ ((0 : Fin 4) : Nat) = 0 := by decide +kernel
theorem q35_70 : qD 35 70 (.bipush (-63)) 2 72 ∧ (Int8.ofInt (-63)).toInt32 = (-63 : Int32) := by decide +kernel
theorem q35_72 : qD 35 72 (.invokevirtual 26) 3 75 ∧ qI 35 26 44 614 := by decide +kernel
theorem q35_75 : qD 35 75 (.aload_n 0) 1 76 ∧ ((0 : Fin 4) : Nat) = 0 := by decide +kernel
theorem q35_76 : qD 35 76 (.aload_n 1) 1 77 ∧ ((1 : Fin 4) : Nat) = 1 := by decide +kernel
theorem q35_77 : qD 35 77 (.iconst 0) 1 78 ∧ Int32.ofInt (0) = (0 : Int32) := by decide +kernel
theorem q35_78 : qD 35 78 (.invokevirtual 46) 3 81 ∧ qI 35 46 39 597 := by decide +kernel
theorem q35_81 : qD 35 81 (.return_) 1 82 ∧ mR 35 = none := by decide +kernel
theorem q36_0 : qD 36 0 (.aload_n 0) 1 1 ∧ ((0 : Fin 4) : Nat) = 0 := by decide +kernel
theorem q36_1 : qD 36 1 (.aload_n 1) 1 2 ∧ ((1 : Fin 4) : Nat) = 1 := by decide +kernel
theorem q36_2 : qD 36 2 (.iload_n 2) 1 3 ∧ ((2 : Fin 4) : Nat) = 2 := by decide +kernel
theorem q36_3 : qD 36 3 (.iload_n 3) 1 4 ∧ ((3 : Fin 4) : Nat) = 3 := by decide +kernel
theorem q36_4 : qD 36 4 (.invokevirtual 57) 3 7 ∧ qI 36 57 37 630 := by decide +kernel
theorem q36_7 : qD 36 7 (.iconst 0) 1 8 ∧ Int32.ofInt (0) = (0 : Int32) := by decide +kernel
theorem q36_8 : qD 36 8 (.istore 4) 2 10 ∧ 4 < mL 36 := by decide +kernel
theorem q36_10 : qD 36 10 (.iload 4) 2 12 := by decide +kernel
theorem q36_12 : qD 36 12 (.sipush 240) 3 15 ∧ (Int16.ofInt (240)).toInt32 = (240 : Int32) := by decide +kernel
theorem q36_15 : qJ 36 15 (.if_icmp .ge 31) 18 (31) 46 := by decide +kernel
theorem q36_18 : qD 36 18 (.aload_n 1) 1 19 ∧ ((1 : Fin 4) : Nat) = 1 := by decide +kernel
theorem q36_19 : qD 36 19 (.bipush 124) 2 21 ∧ (Int8.ofInt (124)).toInt32 = (124 : Int32) := by decide +kernel
theorem q36_21 : qD 36 21 (.invokevirtual 30) 3 24 ∧ qI 36 30 71 638 := by decide +kernel
theorem q36_24 : qJ 36 24 (.ifCond .eq 22) 27 (22) 46 := by decide +kernel
theorem q36_27 : qD 36 27 (.aload_n 0) 1 28 ∧ ((0 : Fin 4) : Nat) = 0 := by decide +kernel
theorem q36_28 : qD 36 28 (.aload_n 1) 1 29 ∧ ((1 : Fin 4) : Nat) = 1 := by decide +kernel
theorem q36_29 : qD 36 29 (.iload_n 2) 1 30 ∧ ((2 : Fin 4) : Nat) = 2 := by decide +kernel
theorem q36_30 : qD 36 30 (.iconst 0) 1 31 ∧ Int32.ofInt (0) = (0 : Int32) := by decide +kernel
theorem q36_31 : qD 36 31 (.invokevirtual 57) 3 34 ∧ qI 36 57 37 630 := by decide +kernel
theorem q36_34 : qD 36 34 (.aload_n 0) 1 35 ∧ ((0 : Fin 4) : Nat) = 0 := by decide +kernel
theorem q36_35 : qD 36 35 (.bipush (-124)) 2 37 ∧ (Int8.ofInt (-124)).toInt32 = (-124 : Int32) := by decide +kernel
theorem q36_37 : qD 36 37 (.invokevirtual 26) 3 40 ∧ qI 36 26 44 614 := by decide +kernel
theorem q36_40 : qD 36 40 (.iinc 4 1) 3 43 ∧ 4 < mL 36 ∧ Int32.ofInt (1) = (1 : Int32) := by decide +kernel
theorem q36_43 : qJ 36 43 (.goto (-33)) 46 (-33) 10 := by decide +kernel
theorem q36_46 : qD 36 46 (.return_) 1 47 ∧ mR 36 = none := by decide +kernel
theorem q37_0 : qD 37 0 (.aload_n 0) 1 1 ∧ ((0 : Fin 4) : Nat) = 0 := by decide +kernel
theorem q37_1 : qD 37 1 (.aload_n 1) 1 2 ∧ ((1 : Fin 4) : Nat) = 1 := by decide +kernel
theorem q37_2 : qD 37 2 (.iload_n 2) 1 3 ∧ ((2 : Fin 4) : Nat) = 2 := by decide +kernel
theorem q37_3 : qD 37 3 (.iload_n 3) 1 4 ∧ ((3 : Fin 4) : Nat) = 3 := by decide +kernel
theorem q37_4 : qD 37 4 (.invokevirtual 60) 3 7 ∧ qI 37 60 38 634 := by decide +kernel
theorem q37_7 : qD 37 7 (.iconst 0) 1 8 ∧ Int32.ofInt (0) = (0 : Int32) := by decide +kernel
theorem q37_8 : qD 37 8 (.istore 4) 2 10 ∧ 4 < mL 37 := by decide +kernel
theorem q37_10 : qD 37 10 (.iload 4) 2 12 := by decide +kernel
theorem q37_12 : qD 37 12 (.sipush 240) 3 15 ∧ (Int16.ofInt (240)).toInt32 = (240 : Int32) := by decide +kernel
theorem q37_15 : qJ 37 15 (.if_icmp .ge 31) 18 (31) 46 := by decide +kernel
theorem q37_18 : qD 37 18 (.aload_n 1) 1 19 ∧ ((1 : Fin 4) : Nat) = 1 := by decide +kernel
theorem q37_19 : qD 37 19 (.bipush 38) 2 21 ∧ (Int8.ofInt (38)).toInt32 = (38 : Int32) := by decide +kernel
theorem q37_21 : qD 37 21 (.invokevirtual 30) 3 24 ∧ qI 37 30 71 638 := by decide +kernel
theorem q37_24 : qJ 37 24 (.ifCond .eq 22) 27 (22) 46 := by decide +kernel
theorem q37_27 : qD 37 27 (.aload_n 0) 1 28 ∧ ((0 : Fin 4) : Nat) = 0 := by decide +kernel
theorem q37_28 : qD 37 28 (.aload_n 1) 1 29 ∧ ((1 : Fin 4) : Nat) = 1 := by decide +kernel
theorem q37_29 : qD 37 29 (.iload_n 2) 1 30 ∧ ((2 : Fin 4) : Nat) = 2 := by decide +kernel
theorem q37_30 : qD 37 30 (.iconst 0) 1 31 ∧ Int32.ofInt (0) = (0 : Int32) := by decide +kernel
theorem q37_31 : qD 37 31 (.invokevirtual 60) 3 34 ∧ qI 37 60 38 634 := by decide +kernel
theorem q37_34 : qD 37 34 (.aload_n 0) 1 35 ∧ ((0 : Fin 4) : Nat) = 0 := by decide +kernel
theorem q37_35 : qD 37 35 (.bipush (-38)) 2 37 ∧ (Int8.ofInt (-38)).toInt32 = (-38 : Int32) := by decide +kernel
theorem q37_37 : qD 37 37 (.invokevirtual 26) 3 40 ∧ qI 37 26 44 614 := by decide +kernel
theorem q37_40 : qD 37 40 (.iinc 4 1) 3 43 ∧ 4 < mL 37 ∧ Int32.ofInt (1) = (1 : Int32) := by decide +kernel
theorem q37_43 : qJ 37 43 (.goto (-33)) 46 (-33) 10 := by decide +kernel
theorem q37_46 : qD 37 46 (.return_) 1 47 ∧ mR 37 = none := by decide +kernel
theorem q38_0 : qD 38 0 (.aload_n 1) 1 1 ∧ ((1 : Fin 4) : Nat) = 1 := by decide +kernel
theorem q38_1 : qD 38 1 (.invokevirtual 42) 3 4 ∧ qI 38 42 69 596 := by decide +kernel
theorem q38_4 : qD 38 4 (.istore 4) 2 6 ∧ 4 < mL 38 := by decide +kernel
theorem q38_6 : qD 38 6 (.iload_n 3) 1 7 ∧ ((3 : Fin 4) : Nat) = 3 := by decide +kernel
theorem q38_7 : qJ 38 7 (.ifCond .ne 21) 10 (21) 28 := by decide +kernel
theorem q38_10 : qD 38 10 (.iload 4) 2 12 := by decide +kernel
theorem q38_12 : qD 38 12 (.bipush 33) 2 14 ∧ (Int8.ofInt (33)).toInt32 = (33 : Int32) := by decide +kernel
theorem q38_14 : qJ 38 14 (.if_icmp .eq 10) 17 (10) 24 := by decide +kernel
theorem q38_17 : qD 38 17 (.iload 4) 2 19 := by decide +kernel
theorem q38_19 : qD 38 19 (.bipush 40) 2 21 ∧ (Int8.ofInt (40)).toInt32 = (40 : Int32) := by decide +kernel
theorem q38_21 : qJ 38 21 (.if_icmp .ne 7) 24 (7) 28 := by decide +kernel
theorem q38_24 : qD 38 24 (.iconst 1) 1 25 ∧ Int32.ofInt (1) = (1 : Int32) := by decide +kernel
theorem q38_25 : qJ 38 25 (.goto 4) 28 (4) 29 := by decide +kernel
theorem q38_28 : qD 38 28 (.iconst 0) 1 29 ∧ Int32.ofInt (0) = (0 : Int32) := by decide +kernel
theorem q38_29 : qD 38 29 (.istore 5) 2 31 ∧ 5 < mL 38 := by decide +kernel
theorem q38_31 : qD 38 31 (.iload 5) 2 33 := by decide +kernel
theorem q38_33 : qJ 38 33 (.ifCond .eq 12) 36 (12) 45 := by decide +kernel
theorem q38_36 : qD 38 36 (.aload_n 1) 1 37 ∧ ((1 : Fin 4) : Nat) = 1 := by decide +kernel
theorem q38_37 : qD 38 37 (.iload_n 2) 1 38 ∧ ((2 : Fin 4) : Nat) = 2 := by decide +kernel
theorem q38_38 : qD 38 38 (.invokestatic 63) 3 41 ∧ qI 38 63 42 620 := by decide +kernel
theorem q38_41 : qJ 38 41 (.ifCond .ne 4) 44 (4) 45 := by decide +kernel
theorem q38_44 : qD 38 44 (.return_) 1 45 ∧ mR 38 = none := by decide +kernel
theorem q38_45 : qD 38 45 (.iload 5) 2 47 := by decide +kernel
theorem q38_47 : qJ 38 47 (.ifCond .eq 26) 50 (26) 73 := by decide +kernel
theorem q38_50 : qD 38 50 (.iload 4) 2 52 := by decide +kernel
theorem q38_52 : qD 38 52 (.bipush 33) 2 54 ∧ (Int8.ofInt (33)).toInt32 = (33 : Int32) := by decide +kernel
theorem q38_54 : qJ 38 54 (.if_icmp .ne 19) 57 (19) 73 := by decide +kernel
theorem q38_57 : qD 38 57 (.aload_n 0) 1 58 ∧ ((0 : Fin 4) : Nat) = 0 := by decide +kernel
theorem q38_58 : qD 38 58 (.aload_n 1) 1 59 ∧ ((1 : Fin 4) : Nat) = 1 := by decide +kernel
theorem q38_59 : qD 38 59 (.iload_n 2) 1 60 ∧ ((2 : Fin 4) : Nat) = 2 := by decide +kernel
theorem q38_60 : qD 38 60 (.iconst 1) 1 61 ∧ Int32.ofInt (1) = (1 : Int32) := by decide +kernel
theorem q38_61 : qD 38 61 (.iadd) 1 62 := by decide +kernel
theorem q38_62 : qD 38 62 (.iconst 0) 1 63 ∧ Int32.ofInt (0) = (0 : Int32) := by decide +kernel
theorem q38_63 : qD 38 63 (.invokevirtual 60) 3 66 ∧ qI 38 60 38 634 := by decide +kernel
theorem q38_66 : qD 38 66 (.aload_n 0) 1 67 ∧ ((0 : Fin 4) : Nat) = 0 := by decide +kernel
theorem q38_67 : qD 38 67 (.bipush (-33)) 2 69 ∧ (Int8.ofInt (-33)).toInt32 = (-33 : Int32) := by decide +kernel
theorem q38_69 : qD 38 69 (.invokevirtual 26) 3 72 ∧ qI 38 26 44 614 := by decide +kernel
theorem q38_72 : qD 38 72 (.return_) 1 73 ∧ mR 38 = none := by decide +kernel
theorem q38_73 : qD 38 73 (.iload 5) 2 75 := by decide +kernel
theorem q38_75 : qJ 38 75 (.ifCond .eq 19) 78 (19) 94 := by decide +kernel
theorem q38_78 : qD 38 78 (.aload_n 0) 1 79 ∧ ((0 : Fin 4) : Nat) = 0 := by decide +kernel
theorem q38_79 : qD 38 79 (.aload_n 1) 1 80 ∧ ((1 : Fin 4) : Nat) = 1 := by decide +kernel
theorem q38_80 : qD 38 80 (.iload_n 2) 1 81 ∧ ((2 : Fin 4) : Nat) = 2 := by decide +kernel
theorem q38_81 : qD 38 81 (.iconst 1) 1 82 ∧ Int32.ofInt (1) = (1 : Int32) := by decide +kernel
theorem q38_82 : qD 38 82 (.iadd) 1 83 := by decide +kernel
theorem q38_83 : qD 38 83 (.iconst 0) 1 84 ∧ Int32.ofInt (0) = (0 : Int32) := by decide +kernel
theorem q38_84 : qD 38 84 (.invokevirtual 53) 3 87 ∧ qI 38 53 36 626 := by decide +kernel
theorem q38_87 : qD 38 87 (.aload_n 1) 1 88 ∧ ((1 : Fin 4) : Nat) = 1 := by decide +kernel
theorem q38_88 : qD 38 88 (.bipush 41) 2 90 ∧ (Int8.ofInt (41)).toInt32 = (41 : Int32) := by decide +kernel
theorem q38_90 : qD 38 90 (.invokevirtual 39) 3 93 ∧ qI 38 39 72 591 := by decide +kernel
theorem q38_93 : qD 38 93 (.return_) 1 94 ∧ mR 38 = none := by decide +kernel
theorem q38_94 : qD 38 94 (.iload_n 3) 1 95 ∧ ((3 : Fin 4) : Nat) = 3 := by decide +kernel
theorem q38_95 : qJ 38 95 (.ifCond .ne 9) 98 (9) 104 := by decide +kernel
theorem q38_98 : qD 38 98 (.aload_n 0) 1 99 ∧ ((0 : Fin 4) : Nat) = 0 := by decide +kernel
theorem q38_99 : qD 38 99 (.aload_n 1) 1 100 ∧ ((1 : Fin 4) : Nat) = 1 := by decide +kernel
theorem q38_100 : qD 38 100 (.iload_n 2) 1 101 ∧ ((2 : Fin 4) : Nat) = 2 := by decide +kernel
theorem q38_101 : qD 38 101 (.invokevirtual 46) 3 104 ∧ qI 38 46 39 597 := by decide +kernel
theorem q38_104 : qD 38 104 (.aload_n 1) 1 105 ∧ ((1 : Fin 4) : Nat) = 1 := by decide +kernel
theorem q38_105 : qD 38 105 (.invokevirtual 42) 3 108 ∧ qI 38 42 69 596 := by decide +kernel
theorem q38_108 : qD 38 108 (.istore 6) 2 110 ∧ 6 < mL 38 := by decide +kernel
theorem q38_110 : qD 38 110 (.iload 6) 2 112 := by decide +kernel
theorem q38_112 : qD 38 112 (.invokestatic 50) 3 115 ∧ qI 38 50 43 623 := by decide +kernel
theorem q38_115 : qJ 38 115 (.ifCond .ne 8) 118 (8) 123 := by decide +kernel
theorem q38_118 : qD 38 118 (.aload_n 1) 1 119 ∧ ((1 : Fin 4) : Nat) = 1 := by decide +kernel
theorem q38_119 : qD 38 119 (.invokevirtual 67) 3 122 ∧ qI 38 67 74 619 := by decide +kernel
theorem q38_122 : qD 38 122 (.return_) 1 123 ∧ mR 38 = none := by decide +kernel
theorem q38_123 : qD 38 123 (.aload_n 1) 1 124 ∧ ((1 : Fin 4) : Nat) = 1 := by decide +kernel
theorem q38_124 : qD 38 124 (.invokevirtual 70) 3 127 ∧ qI 38 70 70 618 := by decide +kernel
theorem q38_127 : qD 38 127 (.aload_n 0) 1 128 ∧ ((0 : Fin 4) : Nat) = 0 := by decide +kernel
theorem q38_128 : qD 38 128 (.aload_n 1) 1 129 ∧ ((1 : Fin 4) : Nat) = 1 := by decide +kernel
theorem q38_129 : qD 38 129 (.iload_n 2) 1 130 ∧ ((2 : Fin 4) : Nat) = 2 := by decide +kernel
theorem q38_130 : qD 38 130 (.invokevirtual 46) 3 133 ∧ qI 38 46 39 597 := by decide +kernel
theorem q38_133 : qD 38 133 (.aload_n 0) 1 134 ∧ ((0 : Fin 4) : Nat) = 0 := by decide +kernel
theorem q38_134 : qD 38 134 (.iload 6) 2 136 := by decide +kernel
theorem q38_136 : qD 38 136 (.ineg) 1 137 := by decide +kernel
theorem q38_137 : qD 38 137 (.invokevirtual 26) 3 140 ∧ qI 38 26 44 614 := by decide +kernel
theorem q38_140 : qD 38 140 (.return_) 1 141 ∧ mR 38 = none := by decide +kernel
theorem q39_0 : qD 39 0 (.aload_n 0) 1 1 ∧ ((0 : Fin 4) : Nat) = 0 := by decide +kernel
theorem q39_1 : qD 39 1 (.aload_n 1) 1 2 ∧ ((1 : Fin 4) : Nat) = 1 := by decide +kernel
theorem q39_2 : qD 39 2 (.iload_n 2) 1 3 ∧ ((2 : Fin 4) : Nat) = 2 := by decide +kernel
theorem q39_3 : qD 39 3 (.invokevirtual 73) 3 6 ∧ qI 39 73 40 601 := by decide +kernel
theorem q39_6 : qD 39 6 (.iconst 0) 1 7 ∧ Int32.ofInt (0) = (0 : Int32) := by decide +kernel
theorem q39_7 : qD 39 7 (.istore_n 3) 1 8 ∧ ((3 : Fin 4) : Nat) = 3 ∧ 3 < mL 39 := by decide +kernel
theorem q39_8 : qD 39 8 (.iload_n 3) 1 9 ∧ ((3 : Fin 4) : Nat) = 3 := by decide +kernel
theorem q39_9 : qD 39 9 (.sipush 240) 3 12 ∧ (Int16.ofInt (240)).toInt32 = (240 : Int32) := by decide +kernel
theorem q39_12 : qJ 39 12 (.if_icmp .ge 47) 15 (47) 59 := by decide +kernel
theorem q39_15 : qD 39 15 (.aload_n 1) 1 16 ∧ ((1 : Fin 4) : Nat) = 1 := by decide +kernel
theorem q39_16 : qD 39 16 (.invokevirtual 42) 3 19 ∧ qI 39 42 69 596 := by decide +kernel
theorem q39_19 : qD 39 19 (.istore 4) 2 21 ∧ 4 < mL 39 := by decide +kernel
theorem q39_21 : qD 39 21 (.iload 4) 2 23 := by decide +kernel
theorem q39_23 : qD 39 23 (.bipush 43) 2 25 ∧ (Int8.ofInt (43)).toInt32 = (43 : Int32) := by decide +kernel
theorem q39_25 : qJ 39 25 (.if_icmp .eq 11) 28 (11) 36 := by decide +kernel
theorem q39_28 : qD 39 28 (.iload 4) 2 30 := by decide +kernel
theorem q39_30 : qD 39 30 (.bipush 45) 2 32 ∧ (Int8.ofInt (45)).toInt32 = (45 : Int32) := by decide +kernel
theorem q39_32 : qJ 39 32 (.if_icmp .eq 4) 35 (4) 36 := by decide +kernel
theorem q39_35 : qD 39 35 (.return_) 1 36 ∧ mR 39 = none := by decide +kernel
theorem q39_36 : qD 39 36 (.aload_n 1) 1 37 ∧ ((1 : Fin 4) : Nat) = 1 := by decide +kernel
theorem q39_37 : qD 39 37 (.invokevirtual 70) 3 40 ∧ qI 39 70 70 618 := by decide +kernel
theorem q39_40 : qD 39 40 (.aload_n 0) 1 41 ∧ ((0 : Fin 4) : Nat) = 0 := by decide +kernel
theorem q39_41 : qD 39 41 (.aload_n 1) 1 42 ∧ ((1 : Fin 4) : Nat) = 1 := by decide +kernel
theorem q39_42 : qD 39 42 (.iload_n 2) 1 43 ∧ ((2 : Fin 4) : Nat) = 2 := by decide +kernel
theorem q39_43 : qD 39 43 (.invokevirtual 73) 3 46 ∧ qI 39 73 40 601 := by decide +kernel
theorem q39_46 : qD 39 46 (.aload_n 0) 1 47 ∧ ((0 : Fin 4) : Nat) = 0 := by decide +kernel
theorem q39_47 : qD 39 47 (.iload 4) 2 49 := by decide +kernel
theorem q39_49 : qD 39 49 (.ineg) 1 50 := by decide +kernel
theorem q39_50 : qD 39 50 (.invokevirtual 26) 3 53 ∧ qI 39 26 44 614 := by decide +kernel
theorem q39_53 : qD 39 53 (.iinc 3 1) 3 56 ∧ 3 < mL 39 ∧ Int32.ofInt (1) = (1 : Int32) := by decide +kernel
theorem q39_56 : qJ 39 56 (.goto (-48)) 59 (-48) 8 := by decide +kernel
theorem q39_59 : qD 39 59 (.return_) 1 60 ∧ mR 39 = none := by decide +kernel
theorem q40_0 : qD 40 0 (.aload_n 0) 1 1 ∧ ((0 : Fin 4) : Nat) = 0 := by decide +kernel
theorem q40_1 : qD 40 1 (.aload_n 1) 1 2 ∧ ((1 : Fin 4) : Nat) = 1 := by decide +kernel
theorem q40_2 : qD 40 2 (.iload_n 2) 1 3 ∧ ((2 : Fin 4) : Nat) = 2 := by decide +kernel
theorem q40_3 : qD 40 3 (.invokevirtual 76) 3 6 ∧ qI 40 76 41 605 := by decide +kernel
theorem q40_6 : qD 40 6 (.iconst 0) 1 7 ∧ Int32.ofInt (0) = (0 : Int32) := by decide +kernel
theorem q40_7 : qD 40 7 (.istore_n 3) 1 8 ∧ ((3 : Fin 4) : Nat) = 3 ∧ 3 < mL 40 := by decide +kernel
theorem q40_8 : qD 40 8 (.iload_n 3) 1 9 ∧ ((3 : Fin 4) : Nat) = 3 := by decide +kernel
theorem q40_9 : qD 40 9 (.sipush 240) 3 12 ∧ (Int16.ofInt (240)).toInt32 = (240 : Int32) := by decide +kernel
theorem q40_12 : qJ 40 12 (.if_icmp .ge 47) 15 (47) 59 := by decide +kernel
theorem q40_15 : qD 40 15 (.aload_n 1) 1 16 ∧ ((1 : Fin 4) : Nat) = 1 := by decide +kernel
theorem q40_16 : qD 40 16 (.invokevirtual 42) 3 19 ∧ qI 40 42 69 596 := by decide +kernel
theorem q40_19 : qD 40 19 (.istore 4) 2 21 ∧ 4 < mL 40 := by decide +kernel
theorem q40_21 : qD 40 21 (.iload 4) 2 23 := by decide +kernel
theorem q40_23 : qD 40 23 (.bipush 42) 2 25 ∧ (Int8.ofInt (42)).toInt32 = (42 : Int32) := by decide +kernel
theorem q40_25 : qJ 40 25 (.if_icmp .eq 11) 28 (11) 36 := by decide +kernel
theorem q40_28 : qD 40 28 (.iload 4) 2 30 := by decide +kernel
theorem q40_30 : qD 40 30 (.bipush 47) 2 32 ∧ (Int8.ofInt (47)).toInt32 = (47 : Int32) := by decide +kernel
theorem q40_32 : qJ 40 32 (.if_icmp .eq 4) 35 (4) 36 := by decide +kernel
theorem q40_35 : qD 40 35 (.return_) 1 36 ∧ mR 40 = none := by decide +kernel
theorem q40_36 : qD 40 36 (.aload_n 1) 1 37 ∧ ((1 : Fin 4) : Nat) = 1 := by decide +kernel
theorem q40_37 : qD 40 37 (.invokevirtual 70) 3 40 ∧ qI 40 70 70 618 := by decide +kernel
theorem q40_40 : qD 40 40 (.aload_n 0) 1 41 ∧ ((0 : Fin 4) : Nat) = 0 := by decide +kernel
theorem q40_41 : qD 40 41 (.aload_n 1) 1 42 ∧ ((1 : Fin 4) : Nat) = 1 := by decide +kernel
theorem q40_42 : qD 40 42 (.iload_n 2) 1 43 ∧ ((2 : Fin 4) : Nat) = 2 := by decide +kernel
theorem q40_43 : qD 40 43 (.invokevirtual 76) 3 46 ∧ qI 40 76 41 605 := by decide +kernel
theorem q40_46 : qD 40 46 (.aload_n 0) 1 47 ∧ ((0 : Fin 4) : Nat) = 0 := by decide +kernel
theorem q40_47 : qD 40 47 (.iload 4) 2 49 := by decide +kernel
theorem q40_49 : qD 40 49 (.ineg) 1 50 := by decide +kernel
theorem q40_50 : qD 40 50 (.invokevirtual 26) 3 53 ∧ qI 40 26 44 614 := by decide +kernel
theorem q40_53 : qD 40 53 (.iinc 3 1) 3 56 ∧ 3 < mL 40 ∧ Int32.ofInt (1) = (1 : Int32) := by decide +kernel
theorem q40_56 : qJ 40 56 (.goto (-48)) 59 (-48) 8 := by decide +kernel
theorem q40_59 : qD 40 59 (.return_) 1 60 ∧ mR 40 = none := by decide +kernel
theorem q41_0 : qD 41 0 (.aload_n 1) 1 1 ∧ ((1 : Fin 4) : Nat) = 1 := by decide +kernel
theorem q41_1 : qD 41 1 (.invokevirtual 42) 3 4 ∧ qI 41 42 69 596 := by decide +kernel
theorem q41_4 : qD 41 4 (.istore_n 3) 1 5 ∧ ((3 : Fin 4) : Nat) = 3 ∧ 3 < mL 41 := by decide +kernel
theorem q41_5 : qD 41 5 (.aload_n 1) 1 6 ∧ ((1 : Fin 4) : Nat) = 1 := by decide +kernel
theorem q41_6 : qD 41 6 (.ldc 79) 2 8 ∧ cR[3]? = some ((mN 41).cls, 79, "tnmkdg", 3) := by decide +kernel
theorem q41_8 : qD 41 8 (.invokevirtual 81) 3 11 ∧ qI 41 81 76 610 := by decide +kernel
theorem q41_11 : qD 41 11 (.istore 4) 2 13 ∧ 4 < mL 41 := by decide +kernel
theorem q41_13 : qD 41 13 (.iload_n 3) 1 14 ∧ ((3 : Fin 4) : Nat) = 3 := by decide +kernel
theorem q41_14 : qD 41 14 (.invokestatic 85) 3 17 ∧ qI 41 85 79 611 := by decide +kernel
theorem q41_17 : qJ 41 17 (.ifCond .eq 18) 20 (18) 35 := by decide +kernel
theorem q41_20 : qD 41 20 (.aload_n 0) 1 21 ∧ ((0 : Fin 4) : Nat) = 0 := by decide +kernel
theorem q41_21 : qD 41 21 (.aload_n 1) 1 22 ∧ ((1 : Fin 4) : Nat) = 1 := by decide +kernel
theorem q41_22 : qD 41 22 (.iconst 4) 1 23 ∧ Int32.ofInt (4) = (4 : Int32) := by decide +kernel
theorem q41_23 : qD 41 23 (.iconst 0) 1 24 ∧ Int32.ofInt (0) = (0 : Int32) := by decide +kernel
theorem q41_24 : qD 41 24 (.ldc 88) 2 26 ∧ inG 612 (.constant (mN 41).cls 88 (1000000)) := by decide +kernel
theorem q41_26 : qD 41 26 (.invokevirtual 89) 3 29 ∧ qI 41 89 78 613 := by decide +kernel
theorem q41_29 : qD 41 29 (.invokevirtual 26) 3 32 ∧ qI 41 26 44 614 := by decide +kernel
theorem q41_32 : qJ 41 32 (.goto 59) 35 (59) 91 := by decide +kernel
theorem q41_35 : qD 41 35 (.iload 4) 2 37 := by decide +kernel
theorem q41_37 : qD 41 37 (.iconst (-1)) 1 38 ∧ Int32.ofInt (-1) = (-1 : Int32) := by decide +kernel
theorem q41_38 : qJ 41 38 (.if_icmp .eq 18) 41 (18) 56 := by decide +kernel
theorem q41_41 : qD 41 41 (.aload_n 1) 1 42 ∧ ((1 : Fin 4) : Nat) = 1 := by decide +kernel
theorem q41_42 : qD 41 42 (.invokevirtual 70) 3 45 ∧ qI 41 70 70 618 := by decide +kernel
theorem q41_45 : qD 41 45 (.aload_n 0) 1 46 ∧ ((0 : Fin 4) : Nat) = 0 := by decide +kernel
theorem q41_46 : qD 41 46 (.iconst (-1)) 1 47 ∧ Int32.ofInt (-1) = (-1 : Int32) := by decide +kernel
theorem q41_47 : qD 41 47 (.iload 4) 2 49 := by decide +kernel
theorem q41_49 : qD 41 49 (.isub) 1 50 := by decide +kernel
theorem q41_50 : qD 41 50 (.invokevirtual 26) 3 53 ∧ qI 41 26 44 614 := by decide +kernel
theorem q41_53 : qJ 41 53 (.goto 38) 56 (38) 91 := by decide +kernel
theorem q41_56 : qD 41 56 (.iload_n 3) 1 57 ∧ ((3 : Fin 4) : Nat) = 3 := by decide +kernel
theorem q41_57 : qD 41 57 (.bipush 91) 2 59 ∧ (Int8.ofInt (91)).toInt32 = (91 : Int32) := by decide +kernel
theorem q41_59 : qJ 41 59 (.if_icmp .eq 10) 62 (10) 69 := by decide +kernel
theorem q41_62 : qD 41 62 (.aload_n 1) 1 63 ∧ ((1 : Fin 4) : Nat) = 1 := by decide +kernel
theorem q41_63 : qD 41 63 (.invokevirtual 67) 3 66 ∧ qI 41 67 74 619 := by decide +kernel
theorem q41_66 : qJ 41 66 (.goto 25) 69 (25) 91 := by decide +kernel
theorem q41_69 : qD 41 69 (.aload_n 1) 1 70 ∧ ((1 : Fin 4) : Nat) = 1 := by decide +kernel
theorem q41_70 : qD 41 70 (.iload_n 2) 1 71 ∧ ((2 : Fin 4) : Nat) = 2 := by decide +kernel
theorem q41_71 : qD 41 71 (.invokestatic 63) 3 74 ∧ qI 41 63 42 620 := by decide +kernel
theorem q41_74 : qJ 41 74 (.ifCond .eq 17) 77 (17) 91 := by decide +kernel
theorem q41_77 : qD 41 77 (.aload_n 0) 1 78 ∧ ((0 : Fin 4) : Nat) = 0 := by decide +kernel
theorem q41_78 : qD 41 78 (.aload_n 1) 1 79 ∧ ((1 : Fin 4) : Nat) = 1 := by decide +kernel
theorem q41_79 : qD 41 79 (.iload_n 2) 1 80 ∧ ((2 : Fin 4) : Nat) = 2 := by decide +kernel
theorem q41_80 : qD 41 80 (.iconst 1) 1 81 ∧ Int32.ofInt (1) = (1 : Int32) := by decide +kernel
theorem q41_81 : qD 41 81 (.iadd) 1 82 := by decide +kernel
theorem q41_82 : qD 41 82 (.invokevirtual 46) 3 85 ∧ qI 41 46 39 597 := by decide +kernel
theorem q41_85 : qD 41 85 (.aload_n 1) 1 86 ∧ ((1 : Fin 4) : Nat) = 1 := by decide +kernel
theorem q41_86 : qD 41 86 (.bipush 93) 2 88 ∧ (Int8.ofInt (93)).toInt32 = (93 : Int32) := by decide +kernel
theorem q41_88 : qD 41 88 (.invokevirtual 39) 3 91 ∧ qI 41 39 72 591 := by decide +kernel
theorem q41_91 : qD 41 91 (.return_) 1 92 ∧ mR 41 = none := by decide +kernel
theorem q42_0 : qD 42 0 (.iload_n 1) 1 1 ∧ ((1 : Fin 4) : Nat) = 1 := by decide +kernel
theorem q42_1 : qD 42 1 (.bipush 6) 2 3 ∧ (Int8.ofInt (6)).toInt32 = (6 : Int32) := by decide +kernel
theorem q42_3 : qJ 42 3 (.if_icmp .lt 9) 6 (9) 12 := by decide +kernel
theorem q42_6 : qD 42 6 (.aload_n 0) 1 7 ∧ ((0 : Fin 4) : Nat) = 0 := by decide +kernel
theorem q42_7 : qD 42 7 (.invokevirtual 67) 3 10 ∧ qI 42 67 74 619 := by decide +kernel
theorem q42_10 : qD 42 10 (.iconst 0) 1 11 ∧ Int32.ofInt (0) = (0 : Int32) := by decide +kernel
theorem q42_11 : qD 42 11 (.ireturn) 1 12 ∧ mR 42 = some .boolean := by decide +kernel
theorem q42_12 : qD 42 12 (.aload_n 0) 1 13 ∧ ((0 : Fin 4) : Nat) = 0 := by decide +kernel
theorem q42_13 : qD 42 13 (.invokevirtual 70) 3 16 ∧ qI 42 70 70 618 := by decide +kernel
theorem q42_16 : qD 42 16 (.iconst 1) 1 17 ∧ Int32.ofInt (1) = (1 : Int32) := by decide +kernel
theorem q42_17 : qD 42 17 (.ireturn) 1 18 ∧ mR 42 = some .boolean := by decide +kernel
theorem q43_0 : qD 43 0 (.iload_n 0) 1 1 ∧ ((0 : Fin 4) : Nat) = 0 := by decide +kernel
theorem q43_1 : qD 43 1 (.bipush 61) 2 3 ∧ (Int8.ofInt (61)).toInt32 = (61 : Int32) := by decide +kernel
theorem q43_3 : qJ 43 3 (.if_icmp .eq 15) 6 (15) 18 := by decide +kernel
theorem q43_6 : qD 43 6 (.iload_n 0) 1 7 ∧ ((0 : Fin 4) : Nat) = 0 := by decide +kernel
theorem q43_7 : qD 43 7 (.bipush 60) 2 9 ∧ (Int8.ofInt (60)).toInt32 = (60 : Int32) := by decide +kernel
theorem q43_9 : qJ 43 9 (.if_icmp .eq 9) 12 (9) 18 := by decide +kernel
theorem q43_12 : qD 43 12 (.iload_n 0) 1 13 ∧ ((0 : Fin 4) : Nat) = 0 := by decide +kernel
theorem q43_13 : qD 43 13 (.bipush 62) 2 15 ∧ (Int8.ofInt (62)).toInt32 = (62 : Int32) := by decide +kernel
theorem q43_15 : qJ 43 15 (.if_icmp .ne 7) 18 (7) 22 := by decide +kernel
theorem q43_18 : qD 43 18 (.iconst 1) 1 19 ∧ Int32.ofInt (1) = (1 : Int32) := by decide +kernel
theorem q43_19 : qJ 43 19 (.goto 4) 22 (4) 23 := by decide +kernel
theorem q43_22 : qD 43 22 (.iconst 0) 1 23 ∧ Int32.ofInt (0) = (0 : Int32) := by decide +kernel
theorem q43_23 : qD 43 23 (.ireturn) 1 24 ∧ mR 43 = some .boolean := by decide +kernel
theorem q44_0 : qD 44 0 (.aload_n 0) 1 1 ∧ ((0 : Fin 4) : Nat) = 0 := by decide +kernel
theorem q44_1 : qG 44 1 18 4 5 2 209 0 := by decide +kernel
theorem q44_4 : qD 44 4 (.sipush 241) 3 7 ∧ (Int16.ofInt (241)).toInt32 = (241 : Int32) := by decide +kernel
theorem q44_7 : qJ 44 7 (.if_icmp .ge 23) 10 (23) 30 := by decide +kernel
theorem q44_10 : qD 44 10 (.aload_n 0) 1 11 ∧ ((0 : Fin 4) : Nat) = 0 := by decide +kernel
theorem q44_11 : qG 44 11 11 14 5 0 207 2 := by decide +kernel
theorem q44_14 : qD 44 14 (.aload_n 0) 1 15 ∧ ((0 : Fin 4) : Nat) = 0 := by decide +kernel
theorem q44_15 : qG 44 15 18 18 5 2 209 0 := by decide +kernel
theorem q44_18 : qD 44 18 (.iload_n 1) 1 19 ∧ ((1 : Fin 4) : Nat) = 1 := by decide +kernel
theorem q44_19 : qD 44 19 (.iastore) 1 20 := by decide +kernel
theorem q44_20 : qD 44 20 (.aload_n 0) 1 21 ∧ ((0 : Fin 4) : Nat) = 0 := by decide +kernel
theorem q44_21 : qD 44 21 (.dup) 1 22 := by decide +kernel
theorem q44_22 : qG 44 22 18 25 5 2 209 0 := by decide +kernel
theorem q44_25 : qD 44 25 (.iconst 1) 1 26 ∧ Int32.ofInt (1) = (1 : Int32) := by decide +kernel
theorem q44_26 : qD 44 26 (.iadd) 1 27 := by decide +kernel
theorem q44_27 : qP 44 27 18 30 5 2 209 0 := by decide +kernel
theorem q44_30 : qD 44 30 (.return_) 1 31 ∧ mR 44 = none := by decide +kernel
theorem q45_0 : qD 45 0 (.iconst 0) 1 1 ∧ Int32.ofInt (0) = (0 : Int32) := by decide +kernel
theorem q45_1 : qD 45 1 (.istore_n 2) 1 2 ∧ ((2 : Fin 4) : Nat) = 2 ∧ 2 < mL 45 := by decide +kernel
theorem q45_2 : qD 45 2 (.iconst 0) 1 3 ∧ Int32.ofInt (0) = (0 : Int32) := by decide +kernel
theorem q45_3 : qD 45 3 (.istore_n 3) 1 4 ∧ ((3 : Fin 4) : Nat) = 3 ∧ 3 < mL 45 := by decide +kernel
theorem q45_4 : qD 45 4 (.iload_n 3) 1 5 ∧ ((3 : Fin 4) : Nat) = 3 := by decide +kernel
theorem q45_5 : qD 45 5 (.aload_n 0) 1 6 ∧ ((0 : Fin 4) : Nat) = 0 := by decide +kernel
theorem q45_6 : qG 45 6 18 9 5 2 209 0 := by decide +kernel
theorem q45_9 : qJ 45 9 (.if_icmp .ge 176) 12 (176) 185 := by decide +kernel
theorem q45_12 : qD 45 12 (.aload_n 0) 1 13 ∧ ((0 : Fin 4) : Nat) = 0 := by decide +kernel
theorem q45_13 : qG 45 13 11 16 5 0 207 2 := by decide +kernel
theorem q45_16 : qD 45 16 (.iload_n 3) 1 17 ∧ ((3 : Fin 4) : Nat) = 3 := by decide +kernel
theorem q45_17 : qD 45 17 (.iaload) 1 18 := by decide +kernel
theorem q45_18 : qD 45 18 (.istore 4) 2 20 ∧ 4 < mL 45 := by decide +kernel
theorem q45_20 : qD 45 20 (.iload 4) 2 22 := by decide +kernel
theorem q45_22 : qD 45 22 (.bipush (-6)) 2 24 ∧ (Int8.ofInt (-6)).toInt32 = (-6 : Int32) := by decide +kernel
theorem q45_24 : qJ 45 24 (.if_icmp .lt 28) 27 (28) 52 := by decide +kernel
theorem q45_27 : qD 45 27 (.aload_n 0) 1 28 ∧ ((0 : Fin 4) : Nat) = 0 := by decide +kernel
theorem q45_28 : qD 45 28 (.iload_n 2) 1 29 ∧ ((2 : Fin 4) : Nat) = 2 := by decide +kernel
theorem q45_29 : qD 45 29 (.iload 4) 2 31 := by decide +kernel
theorem q45_31 : qJ 45 31 (.ifCond .lt 8) 34 (8) 39 := by decide +kernel
theorem q45_34 : qD 45 34 (.iload 4) 2 36 := by decide +kernel
theorem q45_36 : qJ 45 36 (.goto 9) 39 (9) 45 := by decide +kernel
theorem q45_39 : qD 45 39 (.aload_n 1) 1 40 ∧ ((1 : Fin 4) : Nat) = 1 := by decide +kernel
theorem q45_40 : qD 45 40 (.iconst (-1)) 1 41 ∧ Int32.ofInt (-1) = (-1 : Int32) := by decide +kernel
theorem q45_41 : qD 45 41 (.iload 4) 2 43 := by decide +kernel
theorem q45_43 : qD 45 43 (.isub) 1 44 := by decide +kernel
theorem q45_44 : qD 45 44 (.iaload) 1 45 := by decide +kernel
theorem q45_45 : qD 45 45 (.invokevirtual 93) 3 48 ∧ qI 45 93 46 854 := by decide +kernel
theorem q45_48 : qD 45 48 (.istore_n 2) 1 49 ∧ ((2 : Fin 4) : Nat) = 2 ∧ 2 < mL 45 := by decide +kernel
theorem q45_49 : qJ 45 49 (.goto 130) 52 (130) 179 := by decide +kernel
theorem q45_52 : qD 45 52 (.iload 4) 2 54 := by decide +kernel
theorem q45_54 : qD 45 54 (.bipush (-59)) 2 56 ∧ (Int8.ofInt (-59)).toInt32 = (-59 : Int32) := by decide +kernel
theorem q45_56 : qJ 45 56 (.if_icmp .eq 8) 59 (8) 64 := by decide +kernel
theorem q45_59 : qD 45 59 (.iload_n 2) 1 60 ∧ ((2 : Fin 4) : Nat) = 2 := by decide +kernel
theorem q45_60 : qD 45 60 (.iconst 1) 1 61 ∧ Int32.ofInt (1) = (1 : Int32) := by decide +kernel
theorem q45_61 : qJ 45 61 (.if_icmp .ge 21) 64 (21) 82 := by decide +kernel
theorem q45_64 : qD 45 64 (.iload_n 2) 1 65 ∧ ((2 : Fin 4) : Nat) = 2 := by decide +kernel
theorem q45_65 : qD 45 65 (.iconst 1) 1 66 ∧ Int32.ofInt (1) = (1 : Int32) := by decide +kernel
theorem q45_66 : qJ 45 66 (.if_icmp .ge 7) 69 (7) 73 := by decide +kernel
theorem q45_69 : qD 45 69 (.iconst 0) 1 70 ∧ Int32.ofInt (0) = (0 : Int32) := by decide +kernel
theorem q45_70 : qJ 45 70 (.goto 11) 73 (11) 81 := by decide +kernel
theorem q45_73 : qD 45 73 (.aload_n 0) 1 74 ∧ ((0 : Fin 4) : Nat) = 0 := by decide +kernel
theorem q45_74 : qG 45 74 15 77 5 1 208 2 := by decide +kernel
theorem q45_77 : qD 45 77 (.iload_n 2) 1 78 ∧ ((2 : Fin 4) : Nat) = 2 := by decide +kernel
theorem q45_78 : qD 45 78 (.iconst 1) 1 79 ∧ Int32.ofInt (1) = (1 : Int32) := by decide +kernel
theorem q45_79 : qD 45 79 (.isub) 1 80 := by decide +kernel
theorem q45_80 : qD 45 80 (.iaload) 1 81 := by decide +kernel
theorem q45_81 : qD 45 81 (.ireturn) 1 82 ∧ mR 45 = some .int := by decide +kernel
theorem q45_82 : qD 45 82 (.iload 4) 2 84 := by decide +kernel
theorem q45_84 : qD 45 84 (.bipush (-33)) 2 86 ∧ (Int8.ofInt (-33)).toInt32 = (-33 : Int32) := by decide +kernel
theorem q45_86 : qJ 45 86 (.if_icmp .ne 24) 89 (24) 110 := by decide +kernel
theorem q45_89 : qD 45 89 (.aload_n 0) 1 90 ∧ ((0 : Fin 4) : Nat) = 0 := by decide +kernel
theorem q45_90 : qG 45 90 15 93 5 1 208 2 := by decide +kernel
theorem q45_93 : qD 45 93 (.iload_n 2) 1 94 ∧ ((2 : Fin 4) : Nat) = 2 := by decide +kernel
theorem q45_94 : qD 45 94 (.iconst 1) 1 95 ∧ Int32.ofInt (1) = (1 : Int32) := by decide +kernel
theorem q45_95 : qD 45 95 (.isub) 1 96 := by decide +kernel
theorem q45_96 : qD 45 96 (.iconst 1) 1 97 ∧ Int32.ofInt (1) = (1 : Int32) := by decide +kernel
theorem q45_97 : qD 45 97 (.aload_n 0) 1 98 ∧ ((0 : Fin 4) : Nat) = 0 := by decide +kernel
theorem q45_98 : qG 45 98 15 101 5 1 208 2 := by decide +kernel
theorem q45_101 : qD 45 101 (.iload_n 2) 1 102 ∧ ((2 : Fin 4) : Nat) = 2 := by decide +kernel
theorem q45_102 : qD 45 102 (.iconst 1) 1 103 ∧ Int32.ofInt (1) = (1 : Int32) := by decide +kernel
theorem q45_103 : qD 45 103 (.isub) 1 104 := by decide +kernel
theorem q45_104 : qD 45 104 (.iaload) 1 105 := by decide +kernel
theorem q45_105 : qD 45 105 (.isub) 1 106 := by decide +kernel
theorem q45_106 : qD 45 106 (.iastore) 1 107 := by decide +kernel
theorem q45_107 : qJ 45 107 (.goto 72) 110 (72) 179 := by decide +kernel
theorem q45_110 : qD 45 110 (.iload 4) 2 112 := by decide +kernel
theorem q45_112 : qD 45 112 (.bipush (-63)) 2 114 ∧ (Int8.ofInt (-63)).toInt32 = (-63 : Int32) := by decide +kernel
theorem q45_114 : qJ 45 114 (.if_icmp .ne 28) 117 (28) 142 := by decide +kernel
theorem q45_117 : qD 45 117 (.iinc 2 (-1)) 3 120 ∧ 2 < mL 45 ∧ Int32.ofInt (-1) = (-1 : Int32) := by decide +kernel
theorem q45_120 : qD 45 120 (.aload_n 0) 1 121 ∧ ((0 : Fin 4) : Nat) = 0 := by decide +kernel
theorem q45_121 : qG 45 121 15 124 5 1 208 2 := by decide +kernel
theorem q45_124 : qD 45 124 (.iload_n 2) 1 125 ∧ ((2 : Fin 4) : Nat) = 2 := by decide +kernel
theorem q45_125 : qD 45 125 (.iaload) 1 126 := by decide +kernel
theorem q45_126 : qJ 45 126 (.ifCond .ne 11) 129 (11) 137 := by decide +kernel
theorem q45_129 : qD 45 129 (.aload_n 0) 1 130 ∧ ((0 : Fin 4) : Nat) = 0 := by decide +kernel
theorem q45_130 : qD 45 130 (.iload_n 3) 1 131 ∧ ((3 : Fin 4) : Nat) = 3 := by decide +kernel
theorem q45_131 : qD 45 131 (.invokevirtual 97) 3 134 ∧ qI 45 97 47 858 := by decide +kernel
theorem q45_134 : qJ 45 134 (.goto 4) 137 (4) 138 := by decide +kernel
theorem q45_137 : qD 45 137 (.iload_n 3) 1 138 ∧ ((3 : Fin 4) : Nat) = 3 := by decide +kernel
theorem q45_138 : qD 45 138 (.istore_n 3) 1 139 ∧ ((3 : Fin 4) : Nat) = 3 ∧ 3 < mL 45 := by decide +kernel
theorem q45_139 : qJ 45 139 (.goto 40) 142 (40) 179 := by decide +kernel
theorem q45_142 : qD 45 142 (.iload_n 2) 1 143 ∧ ((2 : Fin 4) : Nat) = 2 := by decide +kernel
theorem q45_143 : qD 45 143 (.iconst 2) 1 144 ∧ Int32.ofInt (2) = (2 : Int32) := by decide +kernel
theorem q45_144 : qJ 45 144 (.if_icmp .lt 35) 147 (35) 179 := by decide +kernel
theorem q45_147 : qD 45 147 (.iinc 2 (-1)) 3 150 ∧ 2 < mL 45 ∧ Int32.ofInt (-1) = (-1 : Int32) := by decide +kernel
theorem q45_150 : qD 45 150 (.aload_n 0) 1 151 ∧ ((0 : Fin 4) : Nat) = 0 := by decide +kernel
theorem q45_151 : qG 45 151 15 154 5 1 208 2 := by decide +kernel
theorem q45_154 : qD 45 154 (.iload_n 2) 1 155 ∧ ((2 : Fin 4) : Nat) = 2 := by decide +kernel
theorem q45_155 : qD 45 155 (.iconst 1) 1 156 ∧ Int32.ofInt (1) = (1 : Int32) := by decide +kernel
theorem q45_156 : qD 45 156 (.isub) 1 157 := by decide +kernel
theorem q45_157 : qD 45 157 (.iload 4) 2 159 := by decide +kernel
theorem q45_159 : qD 45 159 (.aload_n 0) 1 160 ∧ ((0 : Fin 4) : Nat) = 0 := by decide +kernel
theorem q45_160 : qG 45 160 15 163 5 1 208 2 := by decide +kernel
theorem q45_163 : qD 45 163 (.iload_n 2) 1 164 ∧ ((2 : Fin 4) : Nat) = 2 := by decide +kernel
theorem q45_164 : qD 45 164 (.iconst 1) 1 165 ∧ Int32.ofInt (1) = (1 : Int32) := by decide +kernel
theorem q45_165 : qD 45 165 (.isub) 1 166 := by decide +kernel
theorem q45_166 : qD 45 166 (.iaload) 1 167 := by decide +kernel
theorem q45_167 : qD 45 167 (.i2l) 1 168 := by decide +kernel
theorem q45_168 : qD 45 168 (.aload_n 0) 1 169 ∧ ((0 : Fin 4) : Nat) = 0 := by decide +kernel
theorem q45_169 : qG 45 169 15 172 5 1 208 2 := by decide +kernel
theorem q45_172 : qD 45 172 (.iload_n 2) 1 173 ∧ ((2 : Fin 4) : Nat) = 2 := by decide +kernel
theorem q45_173 : qD 45 173 (.iaload) 1 174 := by decide +kernel
theorem q45_174 : qD 45 174 (.i2l) 1 175 := by decide +kernel
theorem q45_175 : qD 45 175 (.invokestatic 101) 3 178 ∧ qI 45 101 48 862 := by decide +kernel
theorem q45_178 : qD 45 178 (.iastore) 1 179 := by decide +kernel
theorem q45_179 : qD 45 179 (.iinc 3 1) 3 182 ∧ 3 < mL 45 ∧ Int32.ofInt (1) = (1 : Int32) := by decide +kernel
theorem q45_182 : qJ 45 182 (.goto (-178)) 185 (-178) 4 := by decide +kernel
theorem q45_185 : qD 45 185 (.iconst 0) 1 186 ∧ Int32.ofInt (0) = (0 : Int32) := by decide +kernel
theorem q45_186 : qD 45 186 (.ireturn) 1 187 ∧ mR 45 = some .int := by decide +kernel
theorem q46_0 : qD 46 0 (.iload_n 1) 1 1 ∧ ((1 : Fin 4) : Nat) = 1 := by decide +kernel
theorem q46_1 : qD 46 1 (.bipush 32) 2 3 ∧ (Int8.ofInt (32)).toInt32 = (32 : Int32) := by decide +kernel
theorem q46_3 : qJ 46 3 (.if_icmp .lt 5) 6 (5) 8 := by decide +kernel
theorem q46_6 : qD 46 6 (.iload_n 1) 1 7 ∧ ((1 : Fin 4) : Nat) = 1 := by decide +kernel
theorem q46_7 : qD 46 7 (.ireturn) 1 8 ∧ mR 46 = some .int := by decide +kernel
theorem q46_8 : qD 46 8 (.aload_n 0) 1 9 ∧ ((0 : Fin 4) : Nat) = 0 := by decide +kernel
theorem q46_9 : qG 46 9 15 12 5 1 208 2 := by decide +kernel
theorem q46_12 : qD 46 12 (.iload_n 1) 1 13 ∧ ((1 : Fin 4) : Nat) = 1 := by decide +kernel
theorem q46_13 : qD 46 13 (.iload_n 2) 1 14 ∧ ((2 : Fin 4) : Nat) = 2 := by decide +kernel
theorem q46_14 : qD 46 14 (.iastore) 1 15 := by decide +kernel
theorem q46_15 : qD 46 15 (.iload_n 1) 1 16 ∧ ((1 : Fin 4) : Nat) = 1 := by decide +kernel
theorem q46_16 : qD 46 16 (.iconst 1) 1 17 ∧ Int32.ofInt (1) = (1 : Int32) := by decide +kernel
theorem q46_17 : qD 46 17 (.iadd) 1 18 := by decide +kernel
theorem q46_18 : qD 46 18 (.ireturn) 1 19 ∧ mR 46 = some .int := by decide +kernel
theorem q47_0 : qD 47 0 (.iload_n 1) 1 1 ∧ ((1 : Fin 4) : Nat) = 1 := by decide +kernel
theorem q47_1 : qD 47 1 (.istore_n 2) 1 2 ∧ ((2 : Fin 4) : Nat) = 2 ∧ 2 < mL 47 := by decide +kernel
theorem q47_2 : qD 47 2 (.iload_n 2) 1 3 ∧ ((2 : Fin 4) : Nat) = 2 := by decide +kernel
theorem q47_3 : qD 47 3 (.aload_n 0) 1 4 ∧ ((0 : Fin 4) : Nat) = 0 := by decide +kernel
theorem q47_4 : qG 47 4 18 7 5 2 209 0 := by decide +kernel
theorem q47_7 : qJ 47 7 (.if_icmp .ge 20) 10 (20) 27 := by decide +kernel
theorem q47_10 : qD 47 10 (.aload_n 0) 1 11 ∧ ((0 : Fin 4) : Nat) = 0 := by decide +kernel
theorem q47_11 : qG 47 11 11 14 5 0 207 2 := by decide +kernel
theorem q47_14 : qD 47 14 (.iload_n 2) 1 15 ∧ ((2 : Fin 4) : Nat) = 2 := by decide +kernel
theorem q47_15 : qD 47 15 (.iaload) 1 16 := by decide +kernel
theorem q47_16 : qD 47 16 (.bipush (-59)) 2 18 ∧ (Int8.ofInt (-59)).toInt32 = (-59 : Int32) := by decide +kernel
theorem q47_18 : qJ 47 18 (.if_icmp .eq 9) 21 (9) 27 := by decide +kernel
theorem q47_21 : qD 47 21 (.iinc 2 1) 3 24 ∧ 2 < mL 47 ∧ Int32.ofInt (1) = (1 : Int32) := by decide +kernel
theorem q47_24 : qJ 47 24 (.goto (-22)) 27 (-22) 2 := by decide +kernel
theorem q47_27 : qD 47 27 (.iload_n 2) 1 28 ∧ ((2 : Fin 4) : Nat) = 2 := by decide +kernel
theorem q47_28 : qD 47 28 (.ireturn) 1 29 ∧ mR 47 = some .int := by decide +kernel
theorem q48_0 : qD 48 0 (.iload_n 0) 1 1 ∧ ((0 : Fin 4) : Nat) = 0 := by decide +kernel
theorem q48_1 : qD 48 1 (.tableswitch 213 (-62) (-38) #[189, 157, 173, 213, 213, 213, 213, 213, 213, 213, 213, 213, 213, 213, 213, 139, 213, 123, 213, 115, 131, 213, 213, 213, 205]) 115 116 ∧ (1 : Int) + (213) = (214 : Int) ∧ ((-38 : Int) - (-62) + 1).toNat = (#[189, 157, 173, 213, 213, 213, 213, 213, 213, 213, 213, 213, 213, 213, 213, 139, 213, 123, 213, 115, 131, 213, 213, 213, 205] : Array Int).size := by decide +kernel
theorem q48_116 : qD 48 116 (.lload_n 1) 1 117 ∧ ((1 : Fin 4) : Nat) = 1 := by decide +kernel
theorem q48_117 : qD 48 117 (.lload_n 3) 1 118 ∧ ((3 : Fin 4) : Nat) = 3 := by decide +kernel
theorem q48_118 : qD 48 118 (.ladd) 1 119 := by decide +kernel
theorem q48_119 : qD 48 119 (.lstore 5) 2 121 ∧ 5 + 1 < mL 48 := by decide +kernel
theorem q48_121 : qJ 48 121 (.goto 98) 124 (98) 219 := by decide +kernel
theorem q48_124 : qD 48 124 (.lload_n 1) 1 125 ∧ ((1 : Fin 4) : Nat) = 1 := by decide +kernel
theorem q48_125 : qD 48 125 (.lload_n 3) 1 126 ∧ ((3 : Fin 4) : Nat) = 3 := by decide +kernel
theorem q48_126 : qD 48 126 (.lsub) 1 127 := by decide +kernel
theorem q48_127 : qD 48 127 (.lstore 5) 2 129 ∧ 5 + 1 < mL 48 := by decide +kernel
theorem q48_129 : qJ 48 129 (.goto 90) 132 (90) 219 := by decide +kernel
theorem q48_132 : qD 48 132 (.lload_n 1) 1 133 ∧ ((1 : Fin 4) : Nat) = 1 := by decide +kernel
theorem q48_133 : qD 48 133 (.lload_n 3) 1 134 ∧ ((3 : Fin 4) : Nat) = 3 := by decide +kernel
theorem q48_134 : qD 48 134 (.lmul) 1 135 := by decide +kernel
theorem q48_135 : qD 48 135 (.lstore 5) 2 137 ∧ 5 + 1 < mL 48 := by decide +kernel
theorem q48_137 : qJ 48 137 (.goto 82) 140 (82) 219 := by decide +kernel
theorem q48_140 : qD 48 140 (.lload_n 3) 1 141 ∧ ((3 : Fin 4) : Nat) = 3 := by decide +kernel
theorem q48_141 : qD 48 141 (.lconst 0) 1 142 ∧ Int64.ofNat ((0 : Fin 2) : Nat) = 0 := by decide +kernel
theorem q48_142 : qD 48 142 (.lcmp) 1 143 := by decide +kernel
theorem q48_143 : qJ 48 143 (.ifCond .ne 7) 146 (7) 150 := by decide +kernel
theorem q48_146 : qD 48 146 (.lconst 0) 1 147 ∧ Int64.ofNat ((0 : Fin 2) : Nat) = 0 := by decide +kernel
theorem q48_147 : qJ 48 147 (.goto 6) 150 (6) 153 := by decide +kernel
theorem q48_150 : qD 48 150 (.lload_n 1) 1 151 ∧ ((1 : Fin 4) : Nat) = 1 := by decide +kernel
theorem q48_151 : qD 48 151 (.lload_n 3) 1 152 ∧ ((3 : Fin 4) : Nat) = 3 := by decide +kernel
theorem q48_152 : qD 48 152 (.ldiv) 1 153 := by decide +kernel
theorem q48_153 : qD 48 153 (.lstore 5) 2 155 ∧ 5 + 1 < mL 48 := by decide +kernel
theorem q48_155 : qJ 48 155 (.goto 64) 158 (64) 219 := by decide +kernel
theorem q48_158 : qD 48 158 (.lload_n 1) 1 159 ∧ ((1 : Fin 4) : Nat) = 1 := by decide +kernel
theorem q48_159 : qD 48 159 (.lload_n 3) 1 160 ∧ ((3 : Fin 4) : Nat) = 3 := by decide +kernel
theorem q48_160 : qD 48 160 (.lcmp) 1 161 := by decide +kernel
theorem q48_161 : qJ 48 161 (.ifCond .ne 7) 164 (7) 168 := by decide +kernel
theorem q48_164 : qD 48 164 (.lconst 1) 1 165 ∧ Int64.ofNat ((1 : Fin 2) : Nat) = 1 := by decide +kernel
theorem q48_165 : qJ 48 165 (.goto 4) 168 (4) 169 := by decide +kernel
theorem q48_168 : qD 48 168 (.lconst 0) 1 169 ∧ Int64.ofNat ((0 : Fin 2) : Nat) = 0 := by decide +kernel
theorem q48_169 : qD 48 169 (.lstore 5) 2 171 ∧ 5 + 1 < mL 48 := by decide +kernel
theorem q48_171 : qJ 48 171 (.goto 48) 174 (48) 219 := by decide +kernel
theorem q48_174 : qD 48 174 (.lload_n 1) 1 175 ∧ ((1 : Fin 4) : Nat) = 1 := by decide +kernel
theorem q48_175 : qD 48 175 (.lload_n 3) 1 176 ∧ ((3 : Fin 4) : Nat) = 3 := by decide +kernel
theorem q48_176 : qD 48 176 (.lcmp) 1 177 := by decide +kernel
theorem q48_177 : qJ 48 177 (.ifCond .ge 7) 180 (7) 184 := by decide +kernel
theorem q48_180 : qD 48 180 (.lconst 1) 1 181 ∧ Int64.ofNat ((1 : Fin 2) : Nat) = 1 := by decide +kernel
theorem q48_181 : qJ 48 181 (.goto 4) 184 (4) 185 := by decide +kernel
theorem q48_184 : qD 48 184 (.lconst 0) 1 185 ∧ Int64.ofNat ((0 : Fin 2) : Nat) = 0 := by decide +kernel
theorem q48_185 : qD 48 185 (.lstore 5) 2 187 ∧ 5 + 1 < mL 48 := by decide +kernel
theorem q48_187 : qJ 48 187 (.goto 32) 190 (32) 219 := by decide +kernel
theorem q48_190 : qD 48 190 (.lload_n 1) 1 191 ∧ ((1 : Fin 4) : Nat) = 1 := by decide +kernel
theorem q48_191 : qD 48 191 (.lload_n 3) 1 192 ∧ ((3 : Fin 4) : Nat) = 3 := by decide +kernel
theorem q48_192 : qD 48 192 (.lcmp) 1 193 := by decide +kernel
theorem q48_193 : qJ 48 193 (.ifCond .le 7) 196 (7) 200 := by decide +kernel
theorem q48_196 : qD 48 196 (.lconst 1) 1 197 ∧ Int64.ofNat ((1 : Fin 2) : Nat) = 1 := by decide +kernel
theorem q48_197 : qJ 48 197 (.goto 4) 200 (4) 201 := by decide +kernel
theorem q48_200 : qD 48 200 (.lconst 0) 1 201 ∧ Int64.ofNat ((0 : Fin 2) : Nat) = 0 := by decide +kernel
theorem q48_201 : qD 48 201 (.lstore 5) 2 203 ∧ 5 + 1 < mL 48 := by decide +kernel
theorem q48_203 : qJ 48 203 (.goto 16) 206 (16) 219 := by decide +kernel
theorem q48_206 : qD 48 206 (.lload_n 1) 1 207 ∧ ((1 : Fin 4) : Nat) = 1 := by decide +kernel
theorem q48_207 : qD 48 207 (.lload_n 3) 1 208 ∧ ((3 : Fin 4) : Nat) = 3 := by decide +kernel
theorem q48_208 : qD 48 208 (.land) 1 209 := by decide +kernel
theorem q48_209 : qD 48 209 (.lstore 5) 2 211 ∧ 5 + 1 < mL 48 := by decide +kernel
theorem q48_211 : qJ 48 211 (.goto 8) 214 (8) 219 := by decide +kernel
theorem q48_214 : qD 48 214 (.lload_n 1) 1 215 ∧ ((1 : Fin 4) : Nat) = 1 := by decide +kernel
theorem q48_215 : qD 48 215 (.lload_n 3) 1 216 ∧ ((3 : Fin 4) : Nat) = 3 := by decide +kernel
theorem q48_216 : qD 48 216 (.lor) 1 217 := by decide +kernel
theorem q48_217 : qD 48 217 (.lstore 5) 2 219 ∧ 5 + 1 < mL 48 := by decide +kernel
theorem q48_219 : qD 48 219 (.ldc2_w 105) 3 222 ∧ inG 865 (.constantLong (mN 48).cls 105 (-1000000)) := by decide +kernel
theorem q48_222 : qD 48 222 (.ldc2_w 107) 3 225 ∧ inG 866 (.constantLong (mN 48).cls 107 (1000000)) := by decide +kernel
theorem q48_225 : qD 48 225 (.lload 5) 2 227 := by decide +kernel
theorem q48_227 : qD 48 227 (.invokestatic 109) 3 230 ∧ inG 867 (.methodLink (mN 48).cls 109 Lib.MathLoose.min_long.x) := by decide +kernel
theorem q48_230 : qD 48 230 (.invokestatic 115) 3 233 ∧ inG 870 (.methodLink (mN 48).cls 115 Lib.MathLoose.max_long.x) := by decide +kernel
theorem q48_233 : qD 48 233 (.l2i) 1 234 := by decide +kernel
theorem q48_234 : qD 48 234 (.ireturn) 1 235 ∧ mR 48 = some .int := by decide +kernel
