theorem q268_27 : qD 268 27 (.aload_n 0) 1 28 ∧ ((0 : Fin 4) : Nat) = 0 := by decide +kernel
theorem q268_28 : qD 268 28 (.invokevirtual 438) 3 31 ∧ qI 268 438 264 1824 := by decide +kernel
theorem q268_31 : qJ 268 31 (.if_icmp .ge 36) 34 (36) 67 := by decide +kernel
theorem q268_34 : qD 268 34 (.aload_n 0) 1 35 ∧ ((0 : Fin 4) : Nat) = 0 := by decide +kernel
theorem q268_35 : qD 268 35 (.iload 4) 2 37 := by decide +kernel
theorem q268_37 : qD 268 37 (.invokevirtual 441) 3 40 ∧ qI 268 441 263 1828 := by decide +kernel
theorem q268_40 : qD 268 40 (.invokestatic 337) 3 43 ∧ qI 268 337 295 1685 := by decide +kernel
theorem q268_43 : qD 268 43 (.iload_n 1) 1 44 ∧ ((1 : Fin 4) : Nat) = 1 := by decide +kernel
theorem q268_44 : qJ 268 44 (.if_icmp .le 6) 47 (6) 50 := by decide +kernel
theorem q268_47 : qJ 268 47 (.goto 14) 50 (14) 61 := by decide +kernel
theorem q268_50 : qD 268 50 (.iload_n 3) 1 51 ∧ ((3 : Fin 4) : Nat) = 3 := by decide +kernel
theorem q268_51 : qD 268 51 (.iload_n 2) 1 52 ∧ ((2 : Fin 4) : Nat) = 2 := by decide +kernel
theorem q268_52 : qJ 268 52 (.if_icmp .ne 6) 55 (6) 58 := by decide +kernel
theorem q268_55 : qD 268 55 (.iload 4) 2 57 := by decide +kernel
theorem q268_57 : qD 268 57 (.ireturn) 1 58 ∧ mR 268 = some .int := by decide +kernel
theorem q268_58 : qD 268 58 (.iinc 3 1) 3 61 ∧ 3 < mL 268 ∧ Int32.ofInt (1) = (1 : Int32) := by decide +kernel
theorem q268_61 : qD 268 61 (.iinc 4 1) 3 64 ∧ 4 < mL 268 ∧ Int32.ofInt (1) = (1 : Int32) := by decide +kernel
theorem q268_64 : qJ 268 64 (.goto (-39)) 67 (-39) 25 := by decide +kernel
theorem q268_67 : qD 268 67 (.iload_n 2) 1 68 ∧ ((2 : Fin 4) : Nat) = 2 := by decide +kernel
theorem q268_68 : qD 268 68 (.iconst (-1)) 1 69 ∧ Int32.ofInt (-1) = (-1 : Int32) := by decide +kernel
theorem q268_69 : qJ 268 69 (.if_icmp .ne 7) 72 (7) 76 := by decide +kernel
theorem q268_72 : qD 268 72 (.iload_n 3) 1 73 ∧ ((3 : Fin 4) : Nat) = 3 := by decide +kernel
theorem q268_73 : qJ 268 73 (.goto 4) 76 (4) 77 := by decide +kernel
theorem q268_76 : qD 268 76 (.iconst (-1)) 1 77 ∧ Int32.ofInt (-1) = (-1 : Int32) := by decide +kernel
theorem q268_77 : qD 268 77 (.ireturn) 1 78 ∧ mR 268 = some .int := by decide +kernel
theorem q269_0 : qD 269 0 (.aload_n 0) 1 1 ∧ ((0 : Fin 4) : Nat) = 0 := by decide +kernel
theorem q269_1 : qD 269 1 (.iconst 0) 1 2 ∧ Int32.ofInt (0) = (0 : Int32) := by decide +kernel
theorem q269_2 : qP 269 2 90 5 11 0 1265 0 := by decide +kernel
theorem q269_5 : qD 269 5 (.aload_n 0) 1 6 ∧ ((0 : Fin 4) : Nat) = 0 := by decide +kernel
theorem q269_6 : qD 269 6 (.iload_n 1) 1 7 ∧ ((1 : Fin 4) : Nat) = 1 := by decide +kernel
theorem q269_7 : qD 269 7 (.invokevirtual 449) 3 10 ∧ qI 269 449 267 1836 := by decide +kernel
theorem q269_10 : qJ 269 10 (.ifCond .eq 22) 13 (22) 32 := by decide +kernel
theorem q269_13 : qD 269 13 (.iload_n 2) 1 14 ∧ ((2 : Fin 4) : Nat) = 2 := by decide +kernel
theorem q269_14 : qD 269 14 (.i2l) 1 15 := by decide +kernel
theorem q269_15 : qD 269 15 (.lconst 0) 1 16 ∧ Int64.ofNat ((0 : Fin 2) : Nat) = 0 := by decide +kernel
theorem q269_16 : qD 269 16 (.lconst 1) 1 17 ∧ Int64.ofNat ((1 : Fin 2) : Nat) = 1 := by decide +kernel
theorem q269_17 : qD 269 17 (.invokestatic 211) 3 20 ∧ qI 269 211 170 1435 := by decide +kernel
theorem q269_20 : qJ 269 20 (.ifCond .eq 12) 23 (12) 32 := by decide +kernel
theorem q269_23 : qD 269 23 (.aload_n 0) 1 24 ∧ ((0 : Fin 4) : Nat) = 0 := by decide +kernel
theorem q269_24 : qD 269 24 (.iload_n 1) 1 25 ∧ ((1 : Fin 4) : Nat) = 1 := by decide +kernel
theorem q269_25 : qD 269 25 (.iconst (-1)) 1 26 ∧ Int32.ofInt (-1) = (-1 : Int32) := by decide +kernel
theorem q269_26 : qD 269 26 (.invokevirtual 452) 3 29 ∧ qI 269 452 268 1845 := by decide +kernel
theorem q269_29 : qJ 269 29 (.ifCond .ne 5) 32 (5) 34 := by decide +kernel
theorem q269_32 : qD 269 32 (.iconst (-1)) 1 33 ∧ Int32.ofInt (-1) = (-1 : Int32) := by decide +kernel
theorem q269_33 : qD 269 33 (.ireturn) 1 34 ∧ mR 269 = some .int := by decide +kernel
theorem q269_34 : qD 269 34 (.aload_n 0) 1 35 ∧ ((0 : Fin 4) : Nat) = 0 := by decide +kernel
theorem q269_35 : qD 269 35 (.invokevirtual 438) 3 38 ∧ qI 269 438 264 1824 := by decide +kernel
theorem q269_38 : qD 269 38 (.iconst 1) 1 39 ∧ Int32.ofInt (1) = (1 : Int32) := by decide +kernel
theorem q269_39 : qD 269 39 (.isub) 1 40 := by decide +kernel
theorem q269_40 : qD 269 40 (.istore_n 3) 1 41 ∧ ((3 : Fin 4) : Nat) = 3 ∧ 3 < mL 269 := by decide +kernel
theorem q269_41 : qD 269 41 (.aload_n 0) 1 42 ∧ ((0 : Fin 4) : Nat) = 0 := by decide +kernel
theorem q269_42 : qD 269 42 (.invokevirtual 438) 3 45 ∧ qI 269 438 264 1824 := by decide +kernel
theorem q269_45 : qD 269 45 (.iconst 1) 1 46 ∧ Int32.ofInt (1) = (1 : Int32) := by decide +kernel
theorem q269_46 : qD 269 46 (.isub) 1 47 := by decide +kernel
theorem q269_47 : qD 269 47 (.istore 4) 2 49 ∧ 4 < mL 269 := by decide +kernel
theorem q269_49 : qD 269 49 (.iconst 0) 1 50 ∧ Int32.ofInt (0) = (0 : Int32) := by decide +kernel
theorem q269_50 : qD 269 50 (.istore 5) 2 52 ∧ 5 < mL 269 := by decide +kernel
theorem q269_52 : qD 269 52 (.iload 5) 2 54 := by decide +kernel
theorem q269_54 : qD 269 54 (.aload_n 0) 1 55 ∧ ((0 : Fin 4) : Nat) = 0 := by decide +kernel
theorem q269_55 : qD 269 55 (.invokevirtual 438) 3 58 ∧ qI 269 438 264 1824 := by decide +kernel
theorem q269_58 : qJ 269 58 (.if_icmp .ge 39) 61 (39) 97 := by decide +kernel
theorem q269_61 : qD 269 61 (.aload_n 0) 1 62 ∧ ((0 : Fin 4) : Nat) = 0 := by decide +kernel
theorem q269_62 : qD 269 62 (.iload 5) 2 64 := by decide +kernel
theorem q269_64 : qD 269 64 (.invokevirtual 441) 3 67 ∧ qI 269 441 263 1828 := by decide +kernel
theorem q269_67 : qD 269 67 (.invokestatic 337) 3 70 ∧ qI 269 337 295 1685 := by decide +kernel
theorem q269_70 : qD 269 70 (.iload_n 1) 1 71 ∧ ((1 : Fin 4) : Nat) = 1 := by decide +kernel
theorem q269_71 : qJ 269 71 (.if_icmp .le 6) 74 (6) 77 := by decide +kernel
theorem q269_74 : qJ 269 74 (.goto 17) 77 (17) 91 := by decide +kernel
theorem q269_77 : qD 269 77 (.iload_n 3) 1 78 ∧ ((3 : Fin 4) : Nat) = 3 := by decide +kernel
theorem q269_78 : qD 269 78 (.iload 5) 2 80 := by decide +kernel
theorem q269_80 : qD 269 80 (.iand) 1 81 := by decide +kernel
theorem q269_81 : qD 269 81 (.istore_n 3) 1 82 ∧ ((3 : Fin 4) : Nat) = 3 ∧ 3 < mL 269 := by decide +kernel
theorem q269_82 : qD 269 82 (.iload 4) 2 84 := by decide +kernel
theorem q269_84 : qD 269 84 (.iload 5) 2 86 := by decide +kernel
theorem q269_86 : qD 269 86 (.iconst (-1)) 1 87 ∧ Int32.ofInt (-1) = (-1 : Int32) := by decide +kernel
theorem q269_87 : qD 269 87 (.ixor) 1 88 := by decide +kernel
theorem q269_88 : qD 269 88 (.iand) 1 89 := by decide +kernel
theorem q269_89 : qD 269 89 (.istore 4) 2 91 ∧ 4 < mL 269 := by decide +kernel
theorem q269_91 : qD 269 91 (.iinc 5 1) 3 94 ∧ 5 < mL 269 ∧ Int32.ofInt (1) = (1 : Int32) := by decide +kernel
theorem q269_94 : qJ 269 94 (.goto (-42)) 97 (-42) 52 := by decide +kernel
theorem q269_97 : qD 269 97 (.iload_n 2) 1 98 ∧ ((2 : Fin 4) : Nat) = 2 := by decide +kernel
theorem q269_98 : qJ 269 98 (.ifCond .ne 7) 101 (7) 105 := by decide +kernel
theorem q269_101 : qD 269 101 (.iload_n 3) 1 102 ∧ ((3 : Fin 4) : Nat) = 3 := by decide +kernel
theorem q269_102 : qJ 269 102 (.goto 5) 105 (5) 107 := by decide +kernel
theorem q269_105 : qD 269 105 (.iload 4) 2 107 := by decide +kernel
theorem q269_107 : qD 269 107 (.ireturn) 1 108 ∧ mR 269 = some .int := by decide +kernel
theorem q270_0 : qD 270 0 (.aload_n 0) 1 1 ∧ ((0 : Fin 4) : Nat) = 0 := by decide +kernel
theorem q270_1 : qD 270 1 (.iconst 0) 1 2 ∧ Int32.ofInt (0) = (0 : Int32) := by decide +kernel
theorem q270_2 : qP 270 2 90 5 11 0 1265 0 := by decide +kernel
theorem q270_5 : qD 270 5 (.aload_n 0) 1 6 ∧ ((0 : Fin 4) : Nat) = 0 := by decide +kernel
theorem q270_6 : qD 270 6 (.iload_n 1) 1 7 ∧ ((1 : Fin 4) : Nat) = 1 := by decide +kernel
theorem q270_7 : qD 270 7 (.invokevirtual 449) 3 10 ∧ qI 270 449 267 1836 := by decide +kernel
theorem q270_10 : qJ 270 10 (.ifCond .eq 12) 13 (12) 22 := by decide +kernel
theorem q270_13 : qD 270 13 (.aload_n 0) 1 14 ∧ ((0 : Fin 4) : Nat) = 0 := by decide +kernel
theorem q270_14 : qD 270 14 (.iload_n 1) 1 15 ∧ ((1 : Fin 4) : Nat) = 1 := by decide +kernel
theorem q270_15 : qD 270 15 (.iconst (-1)) 1 16 ∧ Int32.ofInt (-1) = (-1 : Int32) := by decide +kernel
theorem q270_16 : qD 270 16 (.invokevirtual 452) 3 19 ∧ qI 270 452 268 1845 := by decide +kernel
theorem q270_19 : qJ 270 19 (.ifCond .ne 5) 22 (5) 24 := by decide +kernel
theorem q270_22 : qD 270 22 (.iconst (-1)) 1 23 ∧ Int32.ofInt (-1) = (-1 : Int32) := by decide +kernel
theorem q270_23 : qD 270 23 (.ireturn) 1 24 ∧ mR 270 = some .int := by decide +kernel
theorem q270_24 : qD 270 24 (.iconst (-1)) 1 25 ∧ Int32.ofInt (-1) = (-1 : Int32) := by decide +kernel
theorem q270_25 : qD 270 25 (.istore_n 2) 1 26 ∧ ((2 : Fin 4) : Nat) = 2 ∧ 2 < mL 270 := by decide +kernel
theorem q270_26 : qD 270 26 (.iconst 0) 1 27 ∧ Int32.ofInt (0) = (0 : Int32) := by decide +kernel
theorem q270_27 : qD 270 27 (.istore_n 3) 1 28 ∧ ((3 : Fin 4) : Nat) = 3 ∧ 3 < mL 270 := by decide +kernel
theorem q270_28 : qD 270 28 (.iconst 0) 1 29 ∧ Int32.ofInt (0) = (0 : Int32) := by decide +kernel
theorem q270_29 : qD 270 29 (.istore 4) 2 31 ∧ 4 < mL 270 := by decide +kernel
theorem q270_31 : qD 270 31 (.iload 4) 2 33 := by decide +kernel
theorem q270_33 : qD 270 33 (.aload_n 0) 1 34 ∧ ((0 : Fin 4) : Nat) = 0 := by decide +kernel
theorem q270_34 : qG 270 34 288 37 11 27 1292 0 := by decide +kernel
theorem q270_37 : qJ 270 37 (.if_icmp .ge 90) 40 (90) 127 := by decide +kernel
theorem q270_40 : qD 270 40 (.iconst 0) 1 41 ∧ Int32.ofInt (0) = (0 : Int32) := by decide +kernel
theorem q270_41 : qD 270 41 (.istore 5) 2 43 ∧ 5 < mL 270 := by decide +kernel
theorem q270_43 : qD 270 43 (.iconst 0) 1 44 ∧ Int32.ofInt (0) = (0 : Int32) := by decide +kernel
theorem q270_44 : qD 270 44 (.istore 6) 2 46 ∧ 6 < mL 270 := by decide +kernel
theorem q270_46 : qD 270 46 (.iload 6) 2 48 := by decide +kernel
theorem q270_48 : qD 270 48 (.aload_n 0) 1 49 ∧ ((0 : Fin 4) : Nat) = 0 := by decide +kernel
theorem q270_49 : qD 270 49 (.invokevirtual 438) 3 52 ∧ qI 270 438 264 1824 := by decide +kernel
theorem q270_52 : qJ 270 52 (.if_icmp .ge 42) 55 (42) 94 := by decide +kernel
theorem q270_55 : qD 270 55 (.aload_n 0) 1 56 ∧ ((0 : Fin 4) : Nat) = 0 := by decide +kernel
theorem q270_56 : qD 270 56 (.iload 6) 2 58 := by decide +kernel
theorem q270_58 : qD 270 58 (.invokevirtual 441) 3 61 ∧ qI 270 441 263 1828 := by decide +kernel
theorem q270_61 : qD 270 61 (.invokestatic 337) 3 64 ∧ qI 270 337 295 1685 := by decide +kernel
theorem q270_64 : qD 270 64 (.iload_n 1) 1 65 ∧ ((1 : Fin 4) : Nat) = 1 := by decide +kernel
theorem q270_65 : qJ 270 65 (.if_icmp .gt 23) 68 (23) 88 := by decide +kernel
theorem q270_68 : qD 270 68 (.iload 5) 2 70 := by decide +kernel
theorem q270_70 : qD 270 70 (.iload 6) 2 72 := by decide +kernel
theorem q270_72 : qD 270 72 (.iload 4) 2 74 := by decide +kernel
theorem q270_74 : qD 270 74 (.invokestatic 223) 3 77 ∧ qI 270 223 171 1490 := by decide +kernel
theorem q270_77 : qJ 270 77 (.ifCond .eq 7) 80 (7) 84 := by decide +kernel
theorem q270_80 : qD 270 80 (.iconst 1) 1 81 ∧ Int32.ofInt (1) = (1 : Int32) := by decide +kernel
theorem q270_81 : qJ 270 81 (.goto 4) 84 (4) 85 := by decide +kernel
theorem q270_84 : qD 270 84 (.iconst (-1)) 1 85 ∧ Int32.ofInt (-1) = (-1 : Int32) := by decide +kernel
theorem q270_85 : qD 270 85 (.iadd) 1 86 := by decide +kernel
theorem q270_86 : qD 270 86 (.istore 5) 2 88 ∧ 5 < mL 270 := by decide +kernel
theorem q270_88 : qD 270 88 (.iinc 6 1) 3 91 ∧ 6 < mL 270 ∧ Int32.ofInt (1) = (1 : Int32) := by decide +kernel
theorem q270_91 : qJ 270 91 (.goto (-45)) 94 (-45) 46 := by decide +kernel
theorem q270_94 : qD 270 94 (.iload 5) 2 96 := by decide +kernel
theorem q270_96 : qD 270 96 (.invokestatic 455) 3 99 ∧ inG 1850 (.methodLink (mN 270).cls 455 Lib.Math.abs.name) := by decide +kernel
theorem q270_99 : qD 270 99 (.istore 5) 2 101 ∧ 5 < mL 270 := by decide +kernel
theorem q270_101 : qD 270 101 (.iload_n 2) 1 102 ∧ ((2 : Fin 4) : Nat) = 2 := by decide +kernel
theorem q270_102 : qD 270 102 (.iconst (-1)) 1 103 ∧ Int32.ofInt (-1) = (-1 : Int32) := by decide +kernel
theorem q270_103 : qJ 270 103 (.if_icmp .eq 12) 106 (12) 115 := by decide +kernel
theorem q270_106 : qD 270 106 (.iload 5) 2 108 := by decide +kernel
theorem q270_108 : qD 270 108 (.iload_n 3) 1 109 ∧ ((3 : Fin 4) : Nat) = 3 := by decide +kernel
theorem q270_109 : qJ 270 109 (.if_icmp .lt 6) 112 (6) 115 := by decide +kernel
theorem q270_112 : qJ 270 112 (.goto 9) 115 (9) 121 := by decide +kernel
theorem q270_115 : qD 270 115 (.iload 4) 2 117 := by decide +kernel
theorem q270_117 : qD 270 117 (.istore_n 2) 1 118 ∧ ((2 : Fin 4) : Nat) = 2 ∧ 2 < mL 270 := by decide +kernel
theorem q270_118 : qD 270 118 (.iload 5) 2 120 := by decide +kernel
theorem q270_120 : qD 270 120 (.istore_n 3) 1 121 ∧ ((3 : Fin 4) : Nat) = 3 ∧ 3 < mL 270 := by decide +kernel
theorem q270_121 : qD 270 121 (.iinc 4 1) 3 124 ∧ 4 < mL 270 ∧ Int32.ofInt (1) = (1 : Int32) := by decide +kernel
theorem q270_124 : qJ 270 124 (.goto (-93)) 127 (-93) 31 := by decide +kernel
theorem q270_127 : qD 270 127 (.iload_n 2) 1 128 ∧ ((2 : Fin 4) : Nat) = 2 := by decide +kernel
theorem q270_128 : qD 270 128 (.ireturn) 1 129 ∧ mR 270 = some .int := by decide +kernel
theorem q271_0 : qD 271 0 (.aload_n 0) 1 1 ∧ ((0 : Fin 4) : Nat) = 0 := by decide +kernel
theorem q271_1 : qD 271 1 (.iconst 0) 1 2 ∧ Int32.ofInt (0) = (0 : Int32) := by decide +kernel
theorem q271_2 : qP 271 2 90 5 11 0 1265 0 := by decide +kernel
theorem q271_5 : qD 271 5 (.aload_n 0) 1 6 ∧ ((0 : Fin 4) : Nat) = 0 := by decide +kernel
theorem q271_6 : qG 271 6 285 9 11 26 1291 0 := by decide +kernel
theorem q271_9 : qJ 271 9 (.ifCond .ne 5) 12 (5) 14 := by decide +kernel
theorem q271_12 : qD 271 12 (.iconst (-1)) 1 13 ∧ Int32.ofInt (-1) = (-1 : Int32) := by decide +kernel
theorem q271_13 : qD 271 13 (.ireturn) 1 14 ∧ mR 271 = some .int := by decide +kernel
theorem q271_14 : qD 271 14 (.aload_n 0) 1 15 ∧ ((0 : Fin 4) : Nat) = 0 := by decide +kernel
theorem q271_15 : qD 271 15 (.invokevirtual 444) 3 18 ∧ qI 271 444 265 1820 := by decide +kernel
theorem q271_18 : qD 271 18 (.istore_n 1) 1 19 ∧ ((1 : Fin 4) : Nat) = 1 ∧ 1 < mL 271 := by decide +kernel
theorem q271_19 : qD 271 19 (.iconst 1) 1 20 ∧ Int32.ofInt (1) = (1 : Int32) := by decide +kernel
theorem q271_20 : qD 271 20 (.aload_n 0) 1 21 ∧ ((0 : Fin 4) : Nat) = 0 := by decide +kernel
theorem q271_21 : qG 271 21 285 24 11 26 1291 0 := by decide +kernel
theorem q271_24 : qD 271 24 (.ishl) 1 25 := by decide +kernel
theorem q271_25 : qD 271 25 (.iconst 1) 1 26 ∧ Int32.ofInt (1) = (1 : Int32) := by decide +kernel
theorem q271_26 : qD 271 26 (.isub) 1 27 := by decide +kernel
theorem q271_27 : qD 271 27 (.istore_n 2) 1 28 ∧ ((2 : Fin 4) : Nat) = 2 ∧ 2 < mL 271 := by decide +kernel
theorem q271_28 : qD 271 28 (.iconst 0) 1 29 ∧ Int32.ofInt (0) = (0 : Int32) := by decide +kernel
theorem q271_29 : qD 271 29 (.istore_n 3) 1 30 ∧ ((3 : Fin 4) : Nat) = 3 ∧ 3 < mL 271 := by decide +kernel
theorem q271_30 : qD 271 30 (.iload_n 3) 1 31 ∧ ((3 : Fin 4) : Nat) = 3 := by decide +kernel
theorem q271_31 : qD 271 31 (.aload_n 0) 1 32 ∧ ((0 : Fin 4) : Nat) = 0 := by decide +kernel
theorem q271_32 : qD 271 32 (.invokevirtual 438) 3 35 ∧ qI 271 438 264 1824 := by decide +kernel
theorem q271_35 : qJ 271 35 (.if_icmp .ge 29) 38 (29) 64 := by decide +kernel
theorem q271_38 : qD 271 38 (.aload_n 0) 1 39 ∧ ((0 : Fin 4) : Nat) = 0 := by decide +kernel
theorem q271_39 : qD 271 39 (.iload_n 3) 1 40 ∧ ((3 : Fin 4) : Nat) = 3 := by decide +kernel
theorem q271_40 : qD 271 40 (.invokevirtual 441) 3 43 ∧ qI 271 441 263 1828 := by decide +kernel
theorem q271_43 : qD 271 43 (.invokestatic 337) 3 46 ∧ qI 271 337 295 1685 := by decide +kernel
theorem q271_46 : qD 271 46 (.iload_n 1) 1 47 ∧ ((1 : Fin 4) : Nat) = 1 := by decide +kernel
theorem q271_47 : qJ 271 47 (.if_icmp .ne 11) 50 (11) 58 := by decide +kernel
theorem q271_50 : qD 271 50 (.iload_n 2) 1 51 ∧ ((2 : Fin 4) : Nat) = 2 := by decide +kernel
theorem q271_51 : qD 271 51 (.aload_n 0) 1 52 ∧ ((0 : Fin 4) : Nat) = 0 := by decide +kernel
theorem q271_52 : qD 271 52 (.iload_n 3) 1 53 ∧ ((3 : Fin 4) : Nat) = 3 := by decide +kernel
theorem q271_53 : qD 271 53 (.invokevirtual 441) 3 56 ∧ qI 271 441 263 1828 := by decide +kernel
theorem q271_56 : qD 271 56 (.iand) 1 57 := by decide +kernel
theorem q271_57 : qD 271 57 (.istore_n 2) 1 58 ∧ ((2 : Fin 4) : Nat) = 2 ∧ 2 < mL 271 := by decide +kernel
theorem q271_58 : qD 271 58 (.iinc 3 1) 3 61 ∧ 3 < mL 271 ∧ Int32.ofInt (1) = (1 : Int32) := by decide +kernel
theorem q271_61 : qJ 271 61 (.goto (-31)) 64 (-31) 30 := by decide +kernel
theorem q271_64 : qD 271 64 (.iload_n 2) 1 65 ∧ ((2 : Fin 4) : Nat) = 2 := by decide +kernel
theorem q271_65 : qD 271 65 (.ireturn) 1 66 ∧ mR 271 = some .int := by decide +kernel
theorem q272_0 : qD 272 0 (.lconst 1) 1 1 ∧ Int64.ofNat ((1 : Fin 2) : Nat) = 1 := by decide +kernel
theorem q272_1 : qD 272 1 (.lstore_n 2) 1 2 ∧ ((2 : Fin 4) : Nat) = 2 ∧ 2 + 1 < mL 272 := by decide +kernel
theorem q272_2 : qD 272 2 (.iconst 0) 1 3 ∧ Int32.ofInt (0) = (0 : Int32) := by decide +kernel
theorem q272_3 : qD 272 3 (.istore 4) 2 5 ∧ 4 < mL 272 := by decide +kernel
theorem q272_5 : qD 272 5 (.iload 4) 2 7 := by decide +kernel
theorem q272_7 : qD 272 7 (.aload_n 0) 1 8 ∧ ((0 : Fin 4) : Nat) = 0 := by decide +kernel
theorem q272_8 : qG 272 8 288 11 11 27 1292 0 := by decide +kernel
theorem q272_11 : qJ 272 11 (.if_icmp .ge 51) 14 (51) 62 := by decide +kernel
theorem q272_14 : qD 272 14 (.lload_n 2) 1 15 ∧ ((2 : Fin 4) : Nat) = 2 := by decide +kernel
theorem q272_15 : qD 272 15 (.iload_n 1) 1 16 ∧ ((1 : Fin 4) : Nat) = 1 := by decide +kernel
theorem q272_16 : qD 272 16 (.iload 4) 2 18 := by decide +kernel
theorem q272_18 : qD 272 18 (.invokestatic 223) 3 21 ∧ qI 272 223 171 1490 := by decide +kernel
theorem q272_21 : qJ 272 21 (.ifCond .eq 18) 24 (18) 39 := by decide +kernel
theorem q272_24 : qD 272 24 (.aload_n 0) 1 25 ∧ ((0 : Fin 4) : Nat) = 0 := by decide +kernel
theorem q272_25 : qG 272 25 49 28 11 22 1287 2 := by decide +kernel
theorem q272_28 : qD 272 28 (.iconst 2) 1 29 ∧ Int32.ofInt (2) = (2 : Int32) := by decide +kernel
theorem q272_29 : qD 272 29 (.iload 4) 2 31 := by decide +kernel
theorem q272_31 : qD 272 31 (.imul) 1 32 := by decide +kernel
theorem q272_32 : qD 272 32 (.iconst 1) 1 33 ∧ Int32.ofInt (1) = (1 : Int32) := by decide +kernel
theorem q272_33 : qD 272 33 (.iadd) 1 34 := by decide +kernel
theorem q272_34 : qD 272 34 (.iaload) 1 35 := by decide +kernel
theorem q272_35 : qD 272 35 (.i2l) 1 36 := by decide +kernel
theorem q272_36 : qJ 272 36 (.goto 18) 39 (18) 54 := by decide +kernel
theorem q272_39 : qD 272 39 (.bipush 10) 2 41 ∧ (Int8.ofInt (10)).toInt32 = (10 : Int32) := by decide +kernel
theorem q272_41 : qD 272 41 (.aload_n 0) 1 42 ∧ ((0 : Fin 4) : Nat) = 0 := by decide +kernel
theorem q272_42 : qG 272 42 49 45 11 22 1287 2 := by decide +kernel
theorem q272_45 : qD 272 45 (.iconst 2) 1 46 ∧ Int32.ofInt (2) = (2 : Int32) := by decide +kernel
theorem q272_46 : qD 272 46 (.iload 4) 2 48 := by decide +kernel
theorem q272_48 : qD 272 48 (.imul) 1 49 := by decide +kernel
theorem q272_49 : qD 272 49 (.iconst 1) 1 50 ∧ Int32.ofInt (1) = (1 : Int32) := by decide +kernel
theorem q272_50 : qD 272 50 (.iadd) 1 51 := by decide +kernel
theorem q272_51 : qD 272 51 (.iaload) 1 52 := by decide +kernel
theorem q272_52 : qD 272 52 (.isub) 1 53 := by decide +kernel
theorem q272_53 : qD 272 53 (.i2l) 1 54 := by decide +kernel
theorem q272_54 : qD 272 54 (.lmul) 1 55 := by decide +kernel
theorem q272_55 : qD 272 55 (.lstore_n 2) 1 56 ∧ ((2 : Fin 4) : Nat) = 2 ∧ 2 + 1 < mL 272 := by decide +kernel
theorem q272_56 : qD 272 56 (.iinc 4 1) 3 59 ∧ 4 < mL 272 ∧ Int32.ofInt (1) = (1 : Int32) := by decide +kernel
theorem q272_59 : qJ 272 59 (.goto (-54)) 62 (-54) 5 := by decide +kernel
theorem q272_62 : qD 272 62 (.iconst 0) 1 63 ∧ Int32.ofInt (0) = (0 : Int32) := by decide +kernel
theorem q272_63 : qD 272 63 (.istore 4) 2 65 ∧ 4 < mL 272 := by decide +kernel
theorem q272_65 : qD 272 65 (.iconst 0) 1 66 ∧ Int32.ofInt (0) = (0 : Int32) := by decide +kernel
theorem q272_66 : qD 272 66 (.istore 5) 2 68 ∧ 5 < mL 272 := by decide +kernel
theorem q272_68 : qD 272 68 (.iload 5) 2 70 := by decide +kernel
theorem q272_70 : qD 272 70 (.aload_n 0) 1 71 ∧ ((0 : Fin 4) : Nat) = 0 := by decide +kernel
theorem q272_71 : qG 272 71 294 74 11 45 1310 0 := by decide +kernel
theorem q272_74 : qJ 272 74 (.if_icmp .ge 23) 77 (23) 97 := by decide +kernel
theorem q272_77 : qD 272 77 (.iload 4) 2 79 := by decide +kernel
theorem q272_79 : qD 272 79 (.iconst 1) 1 80 ∧ Int32.ofInt (1) = (1 : Int32) := by decide +kernel
theorem q272_80 : qD 272 80 (.aload_n 0) 1 81 ∧ ((0 : Fin 4) : Nat) = 0 := by decide +kernel
theorem q272_81 : qG 272 81 77 84 11 42 1307 2 := by decide +kernel
theorem q272_84 : qD 272 84 (.iload 5) 2 86 := by decide +kernel
theorem q272_86 : qD 272 86 (.iaload) 1 87 := by decide +kernel
theorem q272_87 : qD 272 87 (.ishl) 1 88 := by decide +kernel
theorem q272_88 : qD 272 88 (.ior) 1 89 := by decide +kernel
theorem q272_89 : qD 272 89 (.istore 4) 2 91 ∧ 4 < mL 272 := by decide +kernel
theorem q272_91 : qD 272 91 (.iinc 5 1) 3 94 ∧ 5 < mL 272 ∧ Int32.ofInt (1) = (1 : Int32) := by decide +kernel
theorem q272_94 : qJ 272 94 (.goto (-26)) 97 (-26) 68 := by decide +kernel
theorem q272_97 : qD 272 97 (.aload_n 0) 1 98 ∧ ((0 : Fin 4) : Nat) = 0 := by decide +kernel
theorem q272_98 : qD 272 98 (.iload_n 1) 1 99 ∧ ((1 : Fin 4) : Nat) = 1 := by decide +kernel
theorem q272_99 : qD 272 99 (.invokevirtual 441) 3 102 ∧ qI 272 441 263 1828 := by decide +kernel
theorem q272_102 : qD 272 102 (.istore 5) 2 104 ∧ 5 < mL 272 := by decide +kernel
theorem q272_104 : qD 272 104 (.iconst 0) 1 105 ∧ Int32.ofInt (0) = (0 : Int32) := by decide +kernel
theorem q272_105 : qD 272 105 (.istore 6) 2 107 ∧ 6 < mL 272 := by decide +kernel
theorem q272_107 : qD 272 107 (.iload 6) 2 109 := by decide +kernel
theorem q272_109 : qD 272 109 (.aload_n 0) 1 110 ∧ ((0 : Fin 4) : Nat) = 0 := by decide +kernel
theorem q272_110 : qG 272 110 285 113 11 26 1291 0 := by decide +kernel
theorem q272_113 : qJ 272 113 (.if_icmp .ge 54) 116 (54) 167 := by decide +kernel
theorem q272_116 : qD 272 116 (.iload 4) 2 118 := by decide +kernel
theorem q272_118 : qD 272 118 (.iload 6) 2 120 := by decide +kernel
theorem q272_120 : qD 272 120 (.invokestatic 223) 3 123 ∧ qI 272 223 171 1490 := by decide +kernel
theorem q272_123 : qJ 272 123 (.ifCond .eq 38) 126 (38) 161 := by decide +kernel
theorem q272_126 : qD 272 126 (.lload_n 2) 1 127 ∧ ((2 : Fin 4) : Nat) = 2 := by decide +kernel
theorem q272_127 : qD 272 127 (.iload 5) 2 129 := by decide +kernel
theorem q272_129 : qD 272 129 (.iload 6) 2 131 := by decide +kernel
theorem q272_131 : qD 272 131 (.invokestatic 223) 3 134 ∧ qI 272 223 171 1490 := by decide +kernel
theorem q272_134 : qJ 272 134 (.ifCond .eq 17) 137 (17) 151 := by decide +kernel
theorem q272_137 : qD 272 137 (.bipush 10) 2 139 ∧ (Int8.ofInt (10)).toInt32 = (10 : Int32) := by decide +kernel
theorem q272_139 : qD 272 139 (.aload_n 0) 1 140 ∧ ((0 : Fin 4) : Nat) = 0 := by decide +kernel
theorem q272_140 : qD 272 140 (.iload 6) 2 142 := by decide +kernel
theorem q272_142 : qD 272 142 (.iconst 2) 1 143 ∧ Int32.ofInt (2) = (2 : Int32) := by decide +kernel
theorem q272_143 : qD 272 143 (.invokevirtual 291) 3 146 ∧ qI 272 291 211 1588 := by decide +kernel
theorem q272_146 : qD 272 146 (.isub) 1 147 := by decide +kernel
theorem q272_147 : qD 272 147 (.i2l) 1 148 := by decide +kernel
theorem q272_148 : qJ 272 148 (.goto 11) 151 (11) 159 := by decide +kernel
theorem q272_151 : qD 272 151 (.aload_n 0) 1 152 ∧ ((0 : Fin 4) : Nat) = 0 := by decide +kernel
theorem q272_152 : qD 272 152 (.iload 6) 2 154 := by decide +kernel
theorem q272_154 : qD 272 154 (.iconst 2) 1 155 ∧ Int32.ofInt (2) = (2 : Int32) := by decide +kernel
theorem q272_155 : qD 272 155 (.invokevirtual 291) 3 158 ∧ qI 272 291 211 1588 := by decide +kernel
theorem q272_158 : qD 272 158 (.i2l) 1 159 := by decide +kernel
theorem q272_159 : qD 272 159 (.lmul) 1 160 := by decide +kernel
theorem q272_160 : qD 272 160 (.lstore_n 2) 1 161 ∧ ((2 : Fin 4) : Nat) = 2 ∧ 2 + 1 < mL 272 := by decide +kernel
theorem q272_161 : qD 272 161 (.iinc 6 1) 3 164 ∧ 6 < mL 272 ∧ Int32.ofInt (1) = (1 : Int32) := by decide +kernel
theorem q272_164 : qJ 272 164 (.goto (-57)) 167 (-57) 107 := by decide +kernel
theorem q272_167 : qD 272 167 (.lload_n 2) 1 168 ∧ ((2 : Fin 4) : Nat) = 2 := by decide +kernel
theorem q272_168 : qD 272 168 (.lreturn) 1 169 ∧ mR 272 = some .long := by decide +kernel
theorem q273_0 : qD 273 0 (.aload_n 0) 1 1 ∧ ((0 : Fin 4) : Nat) = 0 := by decide +kernel
theorem q273_1 : qD 273 1 (.iconst 0) 1 2 ∧ Int32.ofInt (0) = (0 : Int32) := by decide +kernel
theorem q273_2 : qP 273 2 90 5 11 0 1265 0 := by decide +kernel
theorem q273_5 : qD 273 5 (.aload_n 0) 1 6 ∧ ((0 : Fin 4) : Nat) = 0 := by decide +kernel
theorem q273_6 : qD 273 6 (.iload_n 1) 1 7 ∧ ((1 : Fin 4) : Nat) = 1 := by decide +kernel
theorem q273_7 : qD 273 7 (.invokevirtual 349) 3 10 ∧ qI 273 349 210 1618 := by decide +kernel
theorem q273_10 : qJ 273 10 (.ifCond .ne 5) 13 (5) 15 := by decide +kernel
theorem q273_13 : qD 273 13 (.iconst (-1)) 1 14 ∧ Int32.ofInt (-1) = (-1 : Int32) := by decide +kernel
theorem q273_14 : qD 273 14 (.ireturn) 1 15 ∧ mR 273 = some .int := by decide +kernel
theorem q273_15 : qD 273 15 (.lconst 0) 1 16 ∧ Int64.ofNat ((0 : Fin 2) : Nat) = 0 := by decide +kernel
theorem q273_16 : qD 273 16 (.lstore_n 2) 1 17 ∧ ((2 : Fin 4) : Nat) = 2 ∧ 2 + 1 < mL 273 := by decide +kernel
theorem q273_17 : qD 273 17 (.lconst 0) 1 18 ∧ Int64.ofNat ((0 : Fin 2) : Nat) = 0 := by decide +kernel
theorem q273_18 : qD 273 18 (.lstore 4) 2 20 ∧ 4 + 1 < mL 273 := by decide +kernel
theorem q273_20 : qD 273 20 (.iconst 0) 1 21 ∧ Int32.ofInt (0) = (0 : Int32) := by decide +kernel
theorem q273_21 : qD 273 21 (.istore 6) 2 23 ∧ 6 < mL 273 := by decide +kernel
theorem q273_23 : qD 273 23 (.iload 6) 2 25 := by decide +kernel
theorem q273_25 : qD 273 25 (.aload_n 0) 1 26 ∧ ((0 : Fin 4) : Nat) = 0 := by decide +kernel
theorem q273_26 : qD 273 26 (.invokevirtual 438) 3 29 ∧ qI 273 438 264 1824 := by decide +kernel
theorem q273_29 : qJ 273 29 (.if_icmp .ge 42) 32 (42) 71 := by decide +kernel
theorem q273_32 : qD 273 32 (.aload_n 0) 1 33 ∧ ((0 : Fin 4) : Nat) = 0 := by decide +kernel
theorem q273_33 : qD 273 33 (.iload 6) 2 35 := by decide +kernel
theorem q273_35 : qD 273 35 (.invokevirtual 458) 3 38 ∧ qI 273 458 272 1859 := by decide +kernel
theorem q273_38 : qD 273 38 (.lstore 7) 2 40 ∧ 7 + 1 < mL 273 := by decide +kernel
theorem q273_40 : qD 273 40 (.lload_n 2) 1 41 ∧ ((2 : Fin 4) : Nat) = 2 := by decide +kernel
theorem q273_41 : qD 273 41 (.lload 7) 2 43 := by decide +kernel
theorem q273_43 : qD 273 43 (.ladd) 1 44 := by decide +kernel
theorem q273_44 : qD 273 44 (.lstore_n 2) 1 45 ∧ ((2 : Fin 4) : Nat) = 2 ∧ 2 + 1 < mL 273 := by decide +kernel
theorem q273_45 : qD 273 45 (.lload 4) 2 47 := by decide +kernel
theorem q273_47 : qD 273 47 (.iload 6) 2 49 := by decide +kernel
theorem q273_49 : qD 273 49 (.iload_n 1) 1 50 ∧ ((1 : Fin 4) : Nat) = 1 := by decide +kernel
theorem q273_50 : qD 273 50 (.invokestatic 223) 3 53 ∧ qI 273 223 171 1490 := by decide +kernel
theorem q273_53 : qJ 273 53 (.ifCond .eq 8) 56 (8) 61 := by decide +kernel
theorem q273_56 : qD 273 56 (.lload 7) 2 58 := by decide +kernel
theorem q273_58 : qJ 273 58 (.goto 4) 61 (4) 62 := by decide +kernel
theorem q273_61 : qD 273 61 (.lconst 0) 1 62 ∧ Int64.ofNat ((0 : Fin 2) : Nat) = 0 := by decide +kernel
theorem q273_62 : qD 273 62 (.ladd) 1 63 := by decide +kernel
theorem q273_63 : qD 273 63 (.lstore 4) 2 65 ∧ 4 + 1 < mL 273 := by decide +kernel
theorem q273_65 : qD 273 65 (.iinc 6 1) 3 68 ∧ 6 < mL 273 ∧ Int32.ofInt (1) = (1 : Int32) := by decide +kernel
theorem q273_68 : qJ 273 68 (.goto (-45)) 71 (-45) 23 := by decide +kernel
theorem q273_71 : qD 273 71 (.lload_n 2) 1 72 ∧ ((2 : Fin 4) : Nat) = 2 := by decide +kernel
theorem q273_72 : qD 273 72 (.lconst 0) 1 73 ∧ Int64.ofNat ((0 : Fin 2) : Nat) = 0 := by decide +kernel
theorem q273_73 : qD 273 73 (.lcmp) 1 74 := by decide +kernel
theorem q273_74 : qJ 273 74 (.ifCond .ne 5) 77 (5) 79 := by decide +kernel
theorem q273_77 : qD 273 77 (.iconst (-1)) 1 78 ∧ Int32.ofInt (-1) = (-1 : Int32) := by decide +kernel
theorem q273_78 : qD 273 78 (.ireturn) 1 79 ∧ mR 273 = some .int := by decide +kernel
theorem q273_79 : qD 273 79 (.ldc2_w 462) 3 82 ∧ inG 1863 (.constantLong (mN 273).cls 462 (1000)) := by decide +kernel
theorem q273_82 : qD 273 82 (.lload 4) 2 84 := by decide +kernel
theorem q273_84 : qD 273 84 (.lmul) 1 85 := by decide +kernel
theorem q273_85 : qD 273 85 (.lload_n 2) 1 86 ∧ ((2 : Fin 4) : Nat) = 2 := by decide +kernel
theorem q273_86 : qD 273 86 (.ldiv) 1 87 := by decide +kernel
theorem q273_87 : qD 273 87 (.lstore 6) 2 89 ∧ 6 + 1 < mL 273 := by decide +kernel
theorem q273_89 : qD 273 89 (.ldc2_w 462) 3 92 ∧ inG 1863 (.constantLong (mN 273).cls 462 (1000)) := by decide +kernel
theorem q273_92 : qD 273 92 (.lload 4) 2 94 := by decide +kernel
theorem q273_94 : qD 273 94 (.lmul) 1 95 := by decide +kernel
theorem q273_95 : qD 273 95 (.lload_n 2) 1 96 ∧ ((2 : Fin 4) : Nat) = 2 := by decide +kernel
theorem q273_96 : qD 273 96 (.lrem) 1 97 := by decide +kernel
theorem q273_97 : qD 273 97 (.lstore 8) 2 99 ∧ 8 + 1 < mL 273 := by decide +kernel
theorem q273_99 : qD 273 99 (.ldc2_w 462) 3 102 ∧ inG 1863 (.constantLong (mN 273).cls 462 (1000)) := by decide +kernel
theorem q273_102 : qD 273 102 (.lload 6) 2 104 := by decide +kernel
theorem q273_104 : qD 273 104 (.lmul) 1 105 := by decide +kernel
theorem q273_105 : qD 273 105 (.ldc2_w 462) 3 108 ∧ inG 1863 (.constantLong (mN 273).cls 462 (1000)) := by decide +kernel
theorem q273_108 : qD 273 108 (.lload 8) 2 110 := by decide +kernel
theorem q273_110 : qD 273 110 (.lmul) 1 111 := by decide +kernel
theorem q273_111 : qD 273 111 (.lload_n 2) 1 112 ∧ ((2 : Fin 4) : Nat) = 2 := by decide +kernel
theorem q273_112 : qD 273 112 (.ldiv) 1 113 := by decide +kernel
theorem q273_113 : qD 273 113 (.ladd) 1 114 := by decide +kernel
theorem q273_114 : qD 273 114 (.l2i) 1 115 := by decide +kernel
theorem q273_115 : qD 273 115 (.ireturn) 1 116 ∧ mR 273 = some .int := by decide +kernel
theorem q274_0 : qD 274 0 (.aload_n 0) 1 1 ∧ ((0 : Fin 4) : Nat) = 0 := by decide +kernel
theorem q274_1 : qD 274 1 (.iconst 0) 1 2 ∧ Int32.ofInt (0) = (0 : Int32) := by decide +kernel
theorem q274_2 : qP 274 2 90 5 11 0 1265 0 := by decide +kernel
theorem q274_5 : qD 274 5 (.aload_n 0) 1 6 ∧ ((0 : Fin 4) : Nat) = 0 := by decide +kernel
theorem q274_6 : qD 274 6 (.iload_n 1) 1 7 ∧ ((1 : Fin 4) : Nat) = 1 := by decide +kernel
theorem q274_7 : qD 274 7 (.invokevirtual 344) 3 10 ∧ qI 274 344 209 1601 := by decide +kernel
theorem q274_10 : qJ 274 10 (.ifCond .ne 5) 13 (5) 15 := by decide +kernel
theorem q274_13 : qD 274 13 (.iconst (-1)) 1 14 ∧ Int32.ofInt (-1) = (-1 : Int32) := by decide +kernel
theorem q274_14 : qD 274 14 (.ireturn) 1 15 ∧ mR 274 = some .int := by decide +kernel
theorem q274_15 : qD 274 15 (.iconst 0) 1 16 ∧ Int32.ofInt (0) = (0 : Int32) := by decide +kernel
theorem q274_16 : qD 274 16 (.istore_n 2) 1 17 ∧ ((2 : Fin 4) : Nat) = 2 ∧ 2 < mL 274 := by decide +kernel
theorem q274_17 : qD 274 17 (.iload_n 1) 1 18 ∧ ((1 : Fin 4) : Nat) = 1 := by decide +kernel
theorem q274_18 : qD 274 18 (.aload_n 0) 1 19 ∧ ((0 : Fin 4) : Nat) = 0 := by decide +kernel
theorem q274_19 : qG 274 19 37 22 11 18 1283 2 := by decide +kernel
theorem q274_22 : qD 274 22 (.iconst 0) 1 23 ∧ Int32.ofInt (0) = (0 : Int32) := by decide +kernel
theorem q274_23 : qD 274 23 (.iaload) 1 24 := by decide +kernel
theorem q274_24 : qD 274 24 (.invokestatic 307) 3 27 ∧ inG 1679 (.methodLink (mN 274).cls 307 Lib.Math.min.name) := by decide +kernel
theorem q274_27 : qD 274 27 (.iconst 1) 1 28 ∧ Int32.ofInt (1) = (1 : Int32) := by decide +kernel
theorem q274_28 : qD 274 28 (.iadd) 1 29 := by decide +kernel
theorem q274_29 : qD 274 29 (.istore_n 3) 1 30 ∧ ((3 : Fin 4) : Nat) = 3 ∧ 3 < mL 274 := by decide +kernel
theorem q274_30 : qD 274 30 (.iload_n 3) 1 31 ∧ ((3 : Fin 4) : Nat) = 3 := by decide +kernel
theorem q274_31 : qD 274 31 (.iload_n 1) 1 32 ∧ ((1 : Fin 4) : Nat) = 1 := by decide +kernel
theorem q274_32 : qD 274 32 (.aload_n 0) 1 33 ∧ ((0 : Fin 4) : Nat) = 0 := by decide +kernel
theorem q274_33 : qG 274 33 37 36 11 18 1283 2 := by decide +kernel
theorem q274_36 : qD 274 36 (.iconst 0) 1 37 ∧ Int32.ofInt (0) = (0 : Int32) := by decide +kernel
theorem q274_37 : qD 274 37 (.iaload) 1 38 := by decide +kernel
theorem q274_38 : qD 274 38 (.invokestatic 309) 3 41 ∧ inG 1680 (.methodLink (mN 274).cls 309 Lib.Math.max.name) := by decide +kernel
theorem q274_41 : qJ 274 41 (.if_icmp .ge 23) 44 (23) 64 := by decide +kernel
theorem q274_44 : qD 274 44 (.iload_n 2) 1 45 ∧ ((2 : Fin 4) : Nat) = 2 := by decide +kernel
theorem q274_45 : qD 274 45 (.iconst 1) 1 46 ∧ Int32.ofInt (1) = (1 : Int32) := by decide +kernel
theorem q274_46 : qD 274 46 (.aload_n 0) 1 47 ∧ ((0 : Fin 4) : Nat) = 0 := by decide +kernel
theorem q274_47 : qD 274 47 (.aload_n 0) 1 48 ∧ ((0 : Fin 4) : Nat) = 0 := by decide +kernel
theorem q274_48 : qG 274 48 61 51 11 32 1297 2 := by decide +kernel
theorem q274_51 : qD 274 51 (.iload_n 3) 1 52 ∧ ((3 : Fin 4) : Nat) = 3 := by decide +kernel
theorem q274_52 : qD 274 52 (.invokevirtual 303) 3 55 ∧ qI 274 303 212 1610 := by decide +kernel
theorem q274_55 : qD 274 55 (.ishl) 1 56 := by decide +kernel
theorem q274_56 : qD 274 56 (.ior) 1 57 := by decide +kernel
theorem q274_57 : qD 274 57 (.istore_n 2) 1 58 ∧ ((2 : Fin 4) : Nat) = 2 ∧ 2 < mL 274 := by decide +kernel
theorem q274_58 : qD 274 58 (.iinc 3 1) 3 61 ∧ 3 < mL 274 ∧ Int32.ofInt (1) = (1 : Int32) := by decide +kernel
theorem q274_61 : qJ 274 61 (.goto (-31)) 64 (-31) 30 := by decide +kernel
theorem q274_64 : qD 274 64 (.iload_n 2) 1 65 ∧ ((2 : Fin 4) : Nat) = 2 := by decide +kernel
theorem q274_65 : qD 274 65 (.ireturn) 1 66 ∧ mR 274 = some .int := by decide +kernel
theorem q275_0 : qD 275 0 (.aload_n 0) 1 1 ∧ ((0 : Fin 4) : Nat) = 0 := by decide +kernel
theorem q275_1 : qD 275 1 (.aload_n 0) 1 2 ∧ ((0 : Fin 4) : Nat) = 0 := by decide +kernel
theorem q275_2 : qG 275 2 61 5 11 32 1297 2 := by decide +kernel
theorem q275_5 : qD 275 5 (.iload_n 1) 1 6 ∧ ((1 : Fin 4) : Nat) = 1 := by decide +kernel
theorem q275_6 : qD 275 6 (.iload_n 2) 1 7 ∧ ((2 : Fin 4) : Nat) = 2 := by decide +kernel
theorem q275_7 : qD 275 7 (.invokevirtual 314) 3 10 ∧ qI 275 314 215 1671 := by decide +kernel
theorem q275_10 : qD 275 10 (.aload_n 0) 1 11 ∧ ((0 : Fin 4) : Nat) = 0 := by decide +kernel
theorem q275_11 : qD 275 11 (.aload_n 0) 1 12 ∧ ((0 : Fin 4) : Nat) = 0 := by decide +kernel
theorem q275_12 : qG 275 12 61 15 11 32 1297 2 := by decide +kernel
theorem q275_15 : qD 275 15 (.iload_n 1) 1 16 ∧ ((1 : Fin 4) : Nat) = 1 := by decide +kernel
theorem q275_16 : qD 275 16 (.invokevirtual 303) 3 19 ∧ qI 275 303 212 1610 := by decide +kernel
theorem q275_19 : qD 275 19 (.istore_n 3) 1 20 ∧ ((3 : Fin 4) : Nat) = 3 ∧ 3 < mL 275 := by decide +kernel
theorem q275_20 : qD 275 20 (.iconst 0) 1 21 ∧ Int32.ofInt (0) = (0 : Int32) := by decide +kernel
theorem q275_21 : qD 275 21 (.istore 4) 2 23 ∧ 4 < mL 275 := by decide +kernel
theorem q275_23 : qD 275 23 (.iconst 0) 1 24 ∧ Int32.ofInt (0) = (0 : Int32) := by decide +kernel
theorem q275_24 : qD 275 24 (.istore 5) 2 26 ∧ 5 < mL 275 := by decide +kernel
theorem q275_26 : qD 275 26 (.iload 5) 2 28 := by decide +kernel
theorem q275_28 : qD 275 28 (.aload_n 0) 1 29 ∧ ((0 : Fin 4) : Nat) = 0 := by decide +kernel
theorem q275_29 : qG 275 29 285 32 11 26 1291 0 := by decide +kernel
theorem q275_32 : qJ 275 32 (.if_icmp .ge 41) 35 (41) 73 := by decide +kernel
theorem q275_35 : qD 275 35 (.iload 4) 2 37 := by decide +kernel
theorem q275_37 : qD 275 37 (.iload 5) 2 39 := by decide +kernel
theorem q275_39 : qD 275 39 (.iload_n 3) 1 40 ∧ ((3 : Fin 4) : Nat) = 3 := by decide +kernel
theorem q275_40 : qJ 275 40 (.if_icmp .eq 23) 43 (23) 63 := by decide +kernel
theorem q275_43 : qD 275 43 (.aload_n 0) 1 44 ∧ ((0 : Fin 4) : Nat) = 0 := by decide +kernel
theorem q275_44 : qD 275 44 (.aload_n 0) 1 45 ∧ ((0 : Fin 4) : Nat) = 0 := by decide +kernel
theorem q275_45 : qG 275 45 61 48 11 32 1297 2 := by decide +kernel
theorem q275_48 : qD 275 48 (.iload 5) 2 50 := by decide +kernel
theorem q275_50 : qD 275 50 (.invokevirtual 322) 3 53 ∧ qI 275 322 216 1681 := by decide +kernel
theorem q275_53 : qJ 275 53 (.ifCond .eq 10) 56 (10) 63 := by decide +kernel
theorem q275_56 : qD 275 56 (.iconst 1) 1 57 ∧ Int32.ofInt (1) = (1 : Int32) := by decide +kernel
theorem q275_57 : qD 275 57 (.iload 5) 2 59 := by decide +kernel
theorem q275_59 : qD 275 59 (.ishl) 1 60 := by decide +kernel
theorem q275_60 : qJ 275 60 (.goto 4) 63 (4) 64 := by decide +kernel
theorem q275_63 : qD 275 63 (.iconst 0) 1 64 ∧ Int32.ofInt (0) = (0 : Int32) := by decide +kernel
theorem q275_64 : qD 275 64 (.ior) 1 65 := by decide +kernel
theorem q275_65 : qD 275 65 (.istore 4) 2 67 ∧ 4 < mL 275 := by decide +kernel
theorem q275_67 : qD 275 67 (.iinc 5 1) 3 70 ∧ 5 < mL 275 ∧ Int32.ofInt (1) = (1 : Int32) := by decide +kernel
theorem q275_70 : qJ 275 70 (.goto (-44)) 73 (-44) 26 := by decide +kernel
theorem q275_73 : qD 275 73 (.iload 4) 2 75 := by decide +kernel
theorem q275_75 : qD 275 75 (.ireturn) 1 76 ∧ mR 275 = some .int := by decide +kernel
theorem q276_0 : qD 276 0 (.aload_n 0) 1 1 ∧ ((0 : Fin 4) : Nat) = 0 := by decide +kernel
theorem q276_1 : qD 276 1 (.iconst 0) 1 2 ∧ Int32.ofInt (0) = (0 : Int32) := by decide +kernel
theorem q276_2 : qP 276 2 90 5 11 0 1265 0 := by decide +kernel
theorem q276_5 : qD 276 5 (.aload_n 0) 1 6 ∧ ((0 : Fin 4) : Nat) = 0 := by decide +kernel
theorem q276_6 : qG 276 6 285 9 11 26 1291 0 := by decide +kernel
theorem q276_9 : qJ 276 9 (.ifCond .eq 25) 12 (25) 34 := by decide +kernel
theorem q276_12 : qD 276 12 (.iload_n 1) 1 13 ∧ ((1 : Fin 4) : Nat) = 1 := by decide +kernel
theorem q276_13 : qJ 276 13 (.ifCond .lt 21) 16 (21) 34 := by decide +kernel
theorem q276_16 : qD 276 16 (.iload_n 1) 1 17 ∧ ((1 : Fin 4) : Nat) = 1 := by decide +kernel
theorem q276_17 : qD 276 17 (.iconst 1) 1 18 ∧ Int32.ofInt (1) = (1 : Int32) := by decide +kernel
theorem q276_18 : qD 276 18 (.aload_n 0) 1 19 ∧ ((0 : Fin 4) : Nat) = 0 := by decide +kernel
theorem q276_19 : qG 276 19 285 22 11 26 1291 0 := by decide +kernel
theorem q276_22 : qD 276 22 (.ishl) 1 23 := by decide +kernel
theorem q276_23 : qJ 276 23 (.if_icmp .ge 11) 26 (11) 34 := by decide +kernel
theorem q276_26 : qD 276 26 (.aload_n 0) 1 27 ∧ ((0 : Fin 4) : Nat) = 0 := by decide +kernel
theorem q276_27 : qD 276 27 (.iload_n 2) 1 28 ∧ ((2 : Fin 4) : Nat) = 2 := by decide +kernel
theorem q276_28 : qD 276 28 (.invokevirtual 349) 3 31 ∧ qI 276 349 210 1618 := by decide +kernel
theorem q276_31 : qJ 276 31 (.ifCond .ne 5) 34 (5) 36 := by decide +kernel
theorem q276_34 : qD 276 34 (.iconst (-1)) 1 35 ∧ Int32.ofInt (-1) = (-1 : Int32) := by decide +kernel
theorem q276_35 : qD 276 35 (.ireturn) 1 36 ∧ mR 276 = some .int := by decide +kernel
theorem q276_36 : qD 276 36 (.iconst (-1)) 1 37 ∧ Int32.ofInt (-1) = (-1 : Int32) := by decide +kernel
theorem q276_37 : qD 276 37 (.istore_n 3) 1 38 ∧ ((3 : Fin 4) : Nat) = 3 ∧ 3 < mL 276 := by decide +kernel
theorem q276_38 : qD 276 38 (.iconst 0) 1 39 ∧ Int32.ofInt (0) = (0 : Int32) := by decide +kernel
theorem q276_39 : qD 276 39 (.istore 4) 2 41 ∧ 4 < mL 276 := by decide +kernel
theorem q276_41 : qD 276 41 (.iconst 0) 1 42 ∧ Int32.ofInt (0) = (0 : Int32) := by decide +kernel
theorem q276_42 : qD 276 42 (.istore 5) 2 44 ∧ 5 < mL 276 := by decide +kernel
theorem q276_44 : qD 276 44 (.iload 5) 2 46 := by decide +kernel
theorem q276_46 : qD 276 46 (.aload_n 0) 1 47 ∧ ((0 : Fin 4) : Nat) = 0 := by decide +kernel
theorem q276_47 : qG 276 47 285 50 11 26 1291 0 := by decide +kernel
theorem q276_50 : qJ 276 50 (.if_icmp .ge 82) 53 (82) 132 := by decide +kernel
theorem q276_53 : qD 276 53 (.aload_n 0) 1 54 ∧ ((0 : Fin 4) : Nat) = 0 := by decide +kernel
theorem q276_54 : qD 276 54 (.iload 5) 2 56 := by decide +kernel
theorem q276_56 : qD 276 56 (.iload_n 2) 1 57 ∧ ((2 : Fin 4) : Nat) = 2 := by decide +kernel
theorem q276_57 : qD 276 57 (.invokevirtual 464) 3 60 ∧ qI 276 464 275 1872 := by decide +kernel
theorem q276_60 : qD 276 60 (.istore 6) 2 62 ∧ 6 < mL 276 := by decide +kernel
theorem q276_62 : qD 276 62 (.iload_n 1) 1 63 ∧ ((1 : Fin 4) : Nat) = 1 := by decide +kernel
theorem q276_63 : qD 276 63 (.iconst 1) 1 64 ∧ Int32.ofInt (1) = (1 : Int32) := by decide +kernel
theorem q276_64 : qD 276 64 (.aload_n 0) 1 65 ∧ ((0 : Fin 4) : Nat) = 0 := by decide +kernel
theorem q276_65 : qD 276 65 (.aload_n 0) 1 66 ∧ ((0 : Fin 4) : Nat) = 0 := by decide +kernel
theorem q276_66 : qG 276 66 61 69 11 32 1297 2 := by decide +kernel
theorem q276_69 : qD 276 69 (.iload 5) 2 71 := by decide +kernel
theorem q276_71 : qD 276 71 (.invokevirtual 303) 3 74 ∧ qI 276 303 212 1610 := by decide +kernel
theorem q276_74 : qD 276 74 (.ishl) 1 75 := by decide +kernel
theorem q276_75 : qD 276 75 (.iconst (-1)) 1 76 ∧ Int32.ofInt (-1) = (-1 : Int32) := by decide +kernel
theorem q276_76 : qD 276 76 (.ixor) 1 77 := by decide +kernel
theorem q276_77 : qD 276 77 (.iand) 1 78 := by decide +kernel
theorem q276_78 : qD 276 78 (.istore 7) 2 80 ∧ 7 < mL 276 := by decide +kernel
theorem q276_80 : qD 276 80 (.iload 7) 2 82 := by decide +kernel
theorem q276_82 : qD 276 82 (.iload 6) 2 84 := by decide +kernel
theorem q276_84 : qD 276 84 (.iconst (-1)) 1 85 ∧ Int32.ofInt (-1) = (-1 : Int32) := by decide +kernel
theorem q276_85 : qD 276 85 (.ixor) 1 86 := by decide +kernel
theorem q276_86 : qD 276 86 (.iand) 1 87 := by decide +kernel
theorem q276_87 : qJ 276 87 (.ifCond .eq 6) 90 (6) 93 := by decide +kernel
theorem q276_90 : qJ 276 90 (.goto 36) 93 (36) 126 := by decide +kernel
theorem q276_93 : qD 276 93 (.iload 6) 2 95 := by decide +kernel
theorem q276_95 : qD 276 95 (.iload_n 1) 1 96 ∧ ((1 : Fin 4) : Nat) = 1 := by decide +kernel
theorem q276_96 : qD 276 96 (.iconst (-1)) 1 97 ∧ Int32.ofInt (-1) = (-1 : Int32) := by decide +kernel
theorem q276_97 : qD 276 97 (.ixor) 1 98 := by decide +kernel
theorem q276_98 : qD 276 98 (.iand) 1 99 := by decide +kernel
theorem q276_99 : qD 276 99 (.invokestatic 337) 3 102 ∧ qI 276 337 295 1685 := by decide +kernel
theorem q276_102 : qD 276 102 (.istore 8) 2 104 ∧ 8 < mL 276 := by decide +kernel
theorem q276_104 : qD 276 104 (.iload_n 3) 1 105 ∧ ((3 : Fin 4) : Nat) = 3 := by decide +kernel
theorem q276_105 : qD 276 105 (.iconst (-1)) 1 106 ∧ Int32.ofInt (-1) = (-1 : Int32) := by decide +kernel
theorem q276_106 : qJ 276 106 (.if_icmp .eq 13) 109 (13) 119 := by decide +kernel
theorem q276_109 : qD 276 109 (.iload 8) 2 111 := by decide +kernel
theorem q276_111 : qD 276 111 (.iload 4) 2 113 := by decide +kernel
theorem q276_113 : qJ 276 113 (.if_icmp .lt 6) 116 (6) 119 := by decide +kernel
theorem q276_116 : qJ 276 116 (.goto 10) 119 (10) 126 := by decide +kernel
theorem q276_119 : qD 276 119 (.iload 5) 2 121 := by decide +kernel
theorem q276_121 : qD 276 121 (.istore_n 3) 1 122 ∧ ((3 : Fin 4) : Nat) = 3 ∧ 3 < mL 276 := by decide +kernel
theorem q276_122 : qD 276 122 (.iload 8) 2 124 := by decide +kernel
theorem q276_124 : qD 276 124 (.istore 4) 2 126 ∧ 4 < mL 276 := by decide +kernel
theorem q276_126 : qD 276 126 (.iinc 5 1) 3 129 ∧ 5 < mL 276 ∧ Int32.ofInt (1) = (1 : Int32) := by decide +kernel
theorem q276_129 : qJ 276 129 (.goto (-85)) 132 (-85) 44 := by decide +kernel
theorem q276_132 : qD 276 132 (.iload_n 3) 1 133 ∧ ((3 : Fin 4) : Nat) = 3 := by decide +kernel
theorem q276_133 : qD 276 133 (.ireturn) 1 134 ∧ mR 276 = some .int := by decide +kernel
theorem q277_0 : qD 277 0 (.aload_n 0) 1 1 ∧ ((0 : Fin 4) : Nat) = 0 := by decide +kernel
theorem q277_1 : qD 277 1 (.iconst 0) 1 2 ∧ Int32.ofInt (0) = (0 : Int32) := by decide +kernel
theorem q277_2 : qP 277 2 90 5 11 0 1265 0 := by decide +kernel
theorem q277_5 : qD 277 5 (.aload_n 0) 1 6 ∧ ((0 : Fin 4) : Nat) = 0 := by decide +kernel
theorem q277_6 : qG 277 6 285 9 11 26 1291 0 := by decide +kernel
theorem q277_9 : qJ 277 9 (.ifCond .ne 5) 12 (5) 14 := by decide +kernel
theorem q277_12 : qD 277 12 (.iconst (-1)) 1 13 ∧ Int32.ofInt (-1) = (-1 : Int32) := by decide +kernel
theorem q277_13 : qD 277 13 (.ireturn) 1 14 ∧ mR 277 = some .int := by decide +kernel
theorem q277_14 : qD 277 14 (.aload_n 0) 1 15 ∧ ((0 : Fin 4) : Nat) = 0 := by decide +kernel
theorem q277_15 : qG 277 15 61 18 11 32 1297 2 := by decide +kernel
theorem q277_18 : qD 277 18 (.bipush 30) 2 20 ∧ (Int8.ofInt (30)).toInt32 = (30 : Int32) := by decide +kernel
theorem q277_20 : qD 277 20 (.iaload) 1 21 := by decide +kernel
theorem q277_21 : qD 277 21 (.istore_n 1) 1 22 ∧ ((1 : Fin 4) : Nat) = 1 ∧ 1 < mL 277 := by decide +kernel
theorem q277_22 : qD 277 22 (.aload_n 0) 1 23 ∧ ((0 : Fin 4) : Nat) = 0 := by decide +kernel
theorem q277_23 : qD 277 23 (.aload_n 0) 1 24 ∧ ((0 : Fin 4) : Nat) = 0 := by decide +kernel
theorem q277_24 : qD 277 24 (.aload_n 0) 1 25 ∧ ((0 : Fin 4) : Nat) = 0 := by decide +kernel
theorem q277_25 : qG 277 25 61 28 11 32 1297 2 := by decide +kernel
theorem q277_28 : qD 277 28 (.invokevirtual 318) 3 31 ∧ qI 277 318 213 1659 := by decide +kernel
theorem q277_31 : qD 277 31 (.iconst 3) 1 32 ∧ Int32.ofInt (3) = (3 : Int32) := by decide +kernel
theorem q277_32 : qD 277 32 (.invokevirtual 291) 3 35 ∧ qI 277 291 211 1588 := by decide +kernel
theorem q277_35 : qD 277 35 (.istore_n 2) 1 36 ∧ ((2 : Fin 4) : Nat) = 2 ∧ 2 < mL 277 := by decide +kernel
theorem q277_36 : qD 277 36 (.iconst 0) 1 37 ∧ Int32.ofInt (0) = (0 : Int32) := by decide +kernel
theorem q277_37 : qD 277 37 (.istore_n 3) 1 38 ∧ ((3 : Fin 4) : Nat) = 3 ∧ 3 < mL 277 := by decide +kernel
theorem q277_38 : qD 277 38 (.iload_n 3) 1 39 ∧ ((3 : Fin 4) : Nat) = 3 := by decide +kernel
theorem q277_39 : qD 277 39 (.bipush 99) 2 41 ∧ (Int8.ofInt (99)).toInt32 = (99 : Int32) := by decide +kernel
theorem q277_41 : qJ 277 41 (.if_icmp .gt 71) 44 (71) 112 := by decide +kernel
theorem q277_44 : qD 277 44 (.iload_n 1) 1 45 ∧ ((1 : Fin 4) : Nat) = 1 := by decide +kernel
theorem q277_45 : qD 277 45 (.aload_n 0) 1 46 ∧ ((0 : Fin 4) : Nat) = 0 := by decide +kernel
theorem q277_46 : qG 277 46 37 49 11 18 1283 2 := by decide +kernel
theorem q277_49 : qD 277 49 (.iconst 2) 1 50 ∧ Int32.ofInt (2) = (2 : Int32) := by decide +kernel
theorem q277_50 : qD 277 50 (.iaload) 1 51 := by decide +kernel
theorem q277_51 : qJ 277 51 (.if_icmp .lt 5) 54 (5) 56 := by decide +kernel
theorem q277_54 : qD 277 54 (.iload_n 3) 1 55 ∧ ((3 : Fin 4) : Nat) = 3 := by decide +kernel
theorem q277_55 : qD 277 55 (.ireturn) 1 56 ∧ mR 277 = some .int := by decide +kernel
theorem q277_56 : qD 277 56 (.iconst 0) 1 57 ∧ Int32.ofInt (0) = (0 : Int32) := by decide +kernel
theorem q277_57 : qD 277 57 (.istore 4) 2 59 ∧ 4 < mL 277 := by decide +kernel
theorem q277_59 : qD 277 59 (.iload 4) 2 61 := by decide +kernel
theorem q277_61 : qD 277 61 (.aload_n 0) 1 62 ∧ ((0 : Fin 4) : Nat) = 0 := by decide +kernel
theorem q277_62 : qG 277 62 288 65 11 27 1292 0 := by decide +kernel
theorem q277_65 : qJ 277 65 (.if_icmp .ge 41) 68 (41) 106 := by decide +kernel
theorem q277_68 : qD 277 68 (.iload_n 1) 1 69 ∧ ((1 : Fin 4) : Nat) = 1 := by decide +kernel
theorem q277_69 : qD 277 69 (.iload 4) 2 71 := by decide +kernel
theorem q277_71 : qD 277 71 (.iload_n 2) 1 72 ∧ ((2 : Fin 4) : Nat) = 2 := by decide +kernel
theorem q277_72 : qJ 277 72 (.if_icmp .eq 13) 75 (13) 85 := by decide +kernel
theorem q277_75 : qD 277 75 (.iload_n 1) 1 76 ∧ ((1 : Fin 4) : Nat) = 1 := by decide +kernel
theorem q277_76 : qD 277 76 (.aload_n 0) 1 77 ∧ ((0 : Fin 4) : Nat) = 0 := by decide +kernel
theorem q277_77 : qG 277 77 37 80 11 18 1283 2 := by decide +kernel
theorem q277_80 : qD 277 80 (.iconst 2) 1 81 ∧ Int32.ofInt (2) = (2 : Int32) := by decide +kernel
theorem q277_81 : qD 277 81 (.iaload) 1 82 := by decide +kernel
theorem q277_82 : qJ 277 82 (.if_icmp .lt 7) 85 (7) 89 := by decide +kernel
theorem q277_85 : qD 277 85 (.iconst 0) 1 86 ∧ Int32.ofInt (0) = (0 : Int32) := by decide +kernel
theorem q277_86 : qJ 277 86 (.goto 12) 89 (12) 98 := by decide +kernel
theorem q277_89 : qD 277 89 (.aload_n 0) 1 90 ∧ ((0 : Fin 4) : Nat) = 0 := by decide +kernel
theorem q277_90 : qG 277 90 49 93 11 22 1287 2 := by decide +kernel
theorem q277_93 : qD 277 93 (.iconst 2) 1 94 ∧ Int32.ofInt (2) = (2 : Int32) := by decide +kernel
theorem q277_94 : qD 277 94 (.iload 4) 2 96 := by decide +kernel
theorem q277_96 : qD 277 96 (.imul) 1 97 := by decide +kernel
theorem q277_97 : qD 277 97 (.iaload) 1 98 := by decide +kernel
theorem q277_98 : qD 277 98 (.iadd) 1 99 := by decide +kernel
theorem q277_99 : qD 277 99 (.istore_n 1) 1 100 ∧ ((1 : Fin 4) : Nat) = 1 ∧ 1 < mL 277 := by decide +kernel
theorem q277_100 : qD 277 100 (.iinc 4 1) 3 103 ∧ 4 < mL 277 ∧ Int32.ofInt (1) = (1 : Int32) := by decide +kernel
theorem q277_103 : qJ 277 103 (.goto (-44)) 106 (-44) 59 := by decide +kernel
theorem q277_106 : qD 277 106 (.iinc 3 1) 3 109 ∧ 3 < mL 277 ∧ Int32.ofInt (1) = (1 : Int32) := by decide +kernel
theorem q277_109 : qJ 277 109 (.goto (-71)) 112 (-71) 38 := by decide +kernel
theorem q277_112 : qD 277 112 (.iconst (-1)) 1 113 ∧ Int32.ofInt (-1) = (-1 : Int32) := by decide +kernel
theorem q277_113 : qD 277 113 (.ireturn) 1 114 ∧ mR 277 = some .int := by decide +kernel
theorem q278_0 : qD 278 0 (.aload_n 0) 1 1 ∧ ((0 : Fin 4) : Nat) = 0 := by decide +kernel
theorem q278_1 : qD 278 1 (.iconst 0) 1 2 ∧ Int32.ofInt (0) = (0 : Int32) := by decide +kernel
theorem q278_2 : qP 278 2 90 5 11 0 1265 0 := by decide +kernel
theorem q278_5 : qD 278 5 (.aload_n 0) 1 6 ∧ ((0 : Fin 4) : Nat) = 0 := by decide +kernel
theorem q278_6 : qD 278 6 (.iload_n 1) 1 7 ∧ ((1 : Fin 4) : Nat) = 1 := by decide +kernel
theorem q278_7 : qD 278 7 (.invokevirtual 349) 3 10 ∧ qI 278 349 210 1618 := by decide +kernel
theorem q278_10 : qJ 278 10 (.ifCond .eq 17) 13 (17) 27 := by decide +kernel
theorem q278_13 : qD 278 13 (.aload_n 0) 1 14 ∧ ((0 : Fin 4) : Nat) = 0 := by decide +kernel
theorem q278_14 : qD 278 14 (.aload_n 0) 1 15 ∧ ((0 : Fin 4) : Nat) = 0 := by decide +kernel
theorem q278_15 : qG 278 15 37 18 11 18 1283 2 := by decide +kernel
theorem q278_18 : qD 278 18 (.iconst 0) 1 19 ∧ Int32.ofInt (0) = (0 : Int32) := by decide +kernel
theorem q278_19 : qD 278 19 (.iaload) 1 20 := by decide +kernel
theorem q278_20 : qD 278 20 (.iload_n 1) 1 21 ∧ ((1 : Fin 4) : Nat) = 1 := by decide +kernel
theorem q278_21 : qD 278 21 (.invokevirtual 464) 3 24 ∧ qI 278 464 275 1872 := by decide +kernel
theorem q278_24 : qJ 278 24 (.goto 4) 27 (4) 28 := by decide +kernel
theorem q278_27 : qD 278 27 (.iconst (-1)) 1 28 ∧ Int32.ofInt (-1) = (-1 : Int32) := by decide +kernel
theorem q278_28 : qD 278 28 (.ireturn) 1 29 ∧ mR 278 = some .int := by decide +kernel
theorem q279_0 : qD 279 0 (.aload_n 0) 1 1 ∧ ((0 : Fin 4) : Nat) = 0 := by decide +kernel
theorem q279_1 : qD 279 1 (.iconst 0) 1 2 ∧ Int32.ofInt (0) = (0 : Int32) := by decide +kernel
theorem q279_2 : qP 279 2 90 5 11 0 1265 0 := by decide +kernel
theorem q279_5 : qD 279 5 (.aload_n 0) 1 6 ∧ ((0 : Fin 4) : Nat) = 0 := by decide +kernel
theorem q279_6 : qG 279 6 285 9 11 26 1291 0 := by decide +kernel
theorem q279_9 : qJ 279 9 (.ifCond .ne 5) 12 (5) 14 := by decide +kernel
theorem q279_12 : qD 279 12 (.iconst (-1)) 1 13 ∧ Int32.ofInt (-1) = (-1 : Int32) := by decide +kernel
theorem q279_13 : qD 279 13 (.ireturn) 1 14 ∧ mR 279 = some .int := by decide +kernel
theorem q279_14 : qD 279 14 (.iconst 0) 1 15 ∧ Int32.ofInt (0) = (0 : Int32) := by decide +kernel
theorem q279_15 : qD 279 15 (.istore_n 1) 1 16 ∧ ((1 : Fin 4) : Nat) = 1 ∧ 1 < mL 279 := by decide +kernel
theorem q279_16 : qD 279 16 (.bipush 9) 2 18 ∧ (Int8.ofInt (9)).toInt32 = (9 : Int32) := by decide +kernel
theorem q279_18 : qD 279 18 (.istore_n 2) 1 19 ∧ ((2 : Fin 4) : Nat) = 2 ∧ 2 < mL 279 := by decide +kernel
theorem q279_19 : qD 279 19 (.iload_n 2) 1 20 ∧ ((2 : Fin 4) : Nat) = 2 := by decide +kernel
theorem q279_20 : qJ 279 20 (.ifCond .lt 46) 23 (46) 66 := by decide +kernel
theorem q279_23 : qD 279 23 (.iconst 0) 1 24 ∧ Int32.ofInt (0) = (0 : Int32) := by decide +kernel
theorem q279_24 : qD 279 24 (.istore_n 3) 1 25 ∧ ((3 : Fin 4) : Nat) = 3 ∧ 3 < mL 279 := by decide +kernel
theorem q279_25 : qD 279 25 (.iload_n 3) 1 26 ∧ ((3 : Fin 4) : Nat) = 3 := by decide +kernel
theorem q279_26 : qD 279 26 (.aload_n 0) 1 27 ∧ ((0 : Fin 4) : Nat) = 0 := by decide +kernel
theorem q279_27 : qG 279 27 285 30 11 26 1291 0 := by decide +kernel
theorem q279_30 : qJ 279 30 (.if_icmp .ge 30) 33 (30) 60 := by decide +kernel
theorem q279_33 : qD 279 33 (.aload_n 0) 1 34 ∧ ((0 : Fin 4) : Nat) = 0 := by decide +kernel
theorem q279_34 : qD 279 34 (.iload_n 3) 1 35 ∧ ((3 : Fin 4) : Nat) = 3 := by decide +kernel
theorem q279_35 : qD 279 35 (.iconst 1) 1 36 ∧ Int32.ofInt (1) = (1 : Int32) := by decide +kernel
theorem q279_36 : qD 279 36 (.invokevirtual 291) 3 39 ∧ qI 279 291 211 1588 := by decide +kernel
theorem q279_39 : qD 279 39 (.iload_n 2) 1 40 ∧ ((2 : Fin 4) : Nat) = 2 := by decide +kernel
theorem q279_40 : qJ 279 40 (.if_icmp .ne 12) 43 (12) 52 := by decide +kernel
theorem q279_43 : qD 279 43 (.bipush 10) 2 45 ∧ (Int8.ofInt (10)).toInt32 = (10 : Int32) := by decide +kernel
theorem q279_45 : qD 279 45 (.iload_n 1) 1 46 ∧ ((1 : Fin 4) : Nat) = 1 := by decide +kernel
theorem q279_46 : qD 279 46 (.imul) 1 47 := by decide +kernel
theorem q279_47 : qD 279 47 (.iload_n 3) 1 48 ∧ ((3 : Fin 4) : Nat) = 3 := by decide +kernel
theorem q279_48 : qD 279 48 (.iadd) 1 49 := by decide +kernel
theorem q279_49 : qJ 279 49 (.goto 4) 52 (4) 53 := by decide +kernel
theorem q279_52 : qD 279 52 (.iload_n 1) 1 53 ∧ ((1 : Fin 4) : Nat) = 1 := by decide +kernel
theorem q279_53 : qD 279 53 (.istore_n 1) 1 54 ∧ ((1 : Fin 4) : Nat) = 1 ∧ 1 < mL 279 := by decide +kernel
theorem q279_54 : qD 279 54 (.iinc 3 1) 3 57 ∧ 3 < mL 279 ∧ Int32.ofInt (1) = (1 : Int32) := by decide +kernel
theorem q279_57 : qJ 279 57 (.goto (-32)) 60 (-32) 25 := by decide +kernel
theorem q279_60 : qD 279 60 (.iinc 2 (-1)) 3 63 ∧ 2 < mL 279 ∧ Int32.ofInt (-1) = (-1 : Int32) := by decide +kernel
theorem q279_63 : qJ 279 63 (.goto (-44)) 66 (-44) 19 := by decide +kernel
theorem q279_66 : qD 279 66 (.iload_n 1) 1 67 ∧ ((1 : Fin 4) : Nat) = 1 := by decide +kernel
theorem q279_67 : qD 279 67 (.ireturn) 1 68 ∧ mR 279 = some .int := by decide +kernel
theorem q280_0 : qD 280 0 (.aload_n 0) 1 1 ∧ ((0 : Fin 4) : Nat) = 0 := by decide +kernel
theorem q280_1 : qD 280 1 (.iconst 0) 1 2 ∧ Int32.ofInt (0) = (0 : Int32) := by decide +kernel
theorem q280_2 : qP 280 2 90 5 11 0 1265 0 := by decide +kernel
theorem q280_5 : qD 280 5 (.aload_n 0) 1 6 ∧ ((0 : Fin 4) : Nat) = 0 := by decide +kernel
theorem q280_6 : qG 280 6 285 9 11 26 1291 0 := by decide +kernel
theorem q280_9 : qJ 280 9 (.ifCond .eq 13) 12 (13) 22 := by decide +kernel
theorem q280_12 : qD 280 12 (.iload_n 1) 1 13 ∧ ((1 : Fin 4) : Nat) = 1 := by decide +kernel
theorem q280_13 : qD 280 13 (.i2l) 1 14 := by decide +kernel
theorem q280_14 : qD 280 14 (.lconst 0) 1 15 ∧ Int64.ofNat ((0 : Fin 2) : Nat) = 0 := by decide +kernel
theorem q280_15 : qD 280 15 (.lconst 1) 1 16 ∧ Int64.ofNat ((1 : Fin 2) : Nat) = 1 := by decide +kernel
theorem q280_16 : qD 280 16 (.invokestatic 211) 3 19 ∧ qI 280 211 170 1435 := by decide +kernel
theorem q280_19 : qJ 280 19 (.ifCond .ne 5) 22 (5) 24 := by decide +kernel
theorem q280_22 : qD 280 22 (.iconst (-1)) 1 23 ∧ Int32.ofInt (-1) = (-1 : Int32) := by decide +kernel
theorem q280_23 : qD 280 23 (.ireturn) 1 24 ∧ mR 280 = some .int := by decide +kernel
theorem q280_24 : qD 280 24 (.iconst (-1)) 1 25 ∧ Int32.ofInt (-1) = (-1 : Int32) := by decide +kernel
theorem q280_25 : qD 280 25 (.istore_n 2) 1 26 ∧ ((2 : Fin 4) : Nat) = 2 ∧ 2 < mL 280 := by decide +kernel
theorem q280_26 : qD 280 26 (.iconst 0) 1 27 ∧ Int32.ofInt (0) = (0 : Int32) := by decide +kernel
theorem q280_27 : qD 280 27 (.istore_n 3) 1 28 ∧ ((3 : Fin 4) : Nat) = 3 ∧ 3 < mL 280 := by decide +kernel
theorem q280_28 : qD 280 28 (.iconst 0) 1 29 ∧ Int32.ofInt (0) = (0 : Int32) := by decide +kernel
theorem q280_29 : qD 280 29 (.istore 4) 2 31 ∧ 4 < mL 280 := by decide +kernel
theorem q280_31 : qD 280 31 (.iload 4) 2 33 := by decide +kernel
theorem q280_33 : qD 280 33 (.aload_n 0) 1 34 ∧ ((0 : Fin 4) : Nat) = 0 := by decide +kernel
theorem q280_34 : qG 280 34 285 37 11 26 1291 0 := by decide +kernel
theorem q280_37 : qJ 280 37 (.if_icmp .ge 94) 40 (94) 131 := by decide +kernel
theorem q280_40 : qD 280 40 (.iload 4) 2 42 := by decide +kernel
theorem q280_42 : qD 280 42 (.iconst 1) 1 43 ∧ Int32.ofInt (1) = (1 : Int32) := by decide +kernel
theorem q280_43 : qD 280 43 (.iadd) 1 44 := by decide +kernel
theorem q280_44 : qD 280 44 (.istore 5) 2 46 ∧ 5 < mL 280 := by decide +kernel
theorem q280_46 : qD 280 46 (.iload 5) 2 48 := by decide +kernel
theorem q280_48 : qD 280 48 (.aload_n 0) 1 49 ∧ ((0 : Fin 4) : Nat) = 0 := by decide +kernel
theorem q280_49 : qG 280 49 285 52 11 26 1291 0 := by decide +kernel
theorem q280_52 : qJ 280 52 (.if_icmp .ge 73) 55 (73) 125 := by decide +kernel
theorem q280_55 : qD 280 55 (.aload_n 0) 1 56 ∧ ((0 : Fin 4) : Nat) = 0 := by decide +kernel
theorem q280_56 : qG 280 56 61 59 11 32 1297 2 := by decide +kernel
theorem q280_59 : qD 280 59 (.aload_n 0) 1 60 ∧ ((0 : Fin 4) : Nat) = 0 := by decide +kernel
theorem q280_60 : qG 280 60 64 63 11 33 1298 2 := by decide +kernel
theorem q280_63 : qD 280 63 (.invokestatic 411) 3 66 ∧ qI 280 411 208 1765 := by decide +kernel
theorem q280_66 : qD 280 66 (.aload_n 0) 1 67 ∧ ((0 : Fin 4) : Nat) = 0 := by decide +kernel
theorem q280_67 : qG 280 67 64 70 11 33 1298 2 := by decide +kernel
theorem q280_70 : qD 280 70 (.iload 4) 2 72 := by decide +kernel
theorem q280_72 : qD 280 72 (.iload 5) 2 74 := by decide +kernel
theorem q280_74 : qD 280 74 (.invokestatic 372) 3 77 ∧ qI 280 372 234 1694 := by decide +kernel
theorem q280_77 : qD 280 77 (.aload_n 0) 1 78 ∧ ((0 : Fin 4) : Nat) = 0 := by decide +kernel
theorem q280_78 : qD 280 78 (.aload_n 0) 1 79 ∧ ((0 : Fin 4) : Nat) = 0 := by decide +kernel
theorem q280_79 : qG 280 79 64 82 11 33 1298 2 := by decide +kernel
theorem q280_82 : qD 280 82 (.aload_n 0) 1 83 ∧ ((0 : Fin 4) : Nat) = 0 := by decide +kernel
theorem q280_83 : qG 280 83 37 86 11 18 1283 2 := by decide +kernel
theorem q280_86 : qD 280 86 (.iconst 3) 1 87 ∧ Int32.ofInt (3) = (3 : Int32) := by decide +kernel
theorem q280_87 : qD 280 87 (.iaload) 1 88 := by decide +kernel
theorem q280_88 : qD 280 88 (.invokevirtual 422) 3 91 ∧ qI 280 422 256 1796 := by decide +kernel
theorem q280_91 : qD 280 91 (.istore 6) 2 93 ∧ 6 < mL 280 := by decide +kernel
theorem q280_93 : qD 280 93 (.iload_n 2) 1 94 ∧ ((2 : Fin 4) : Nat) = 2 := by decide +kernel
theorem q280_94 : qD 280 94 (.iconst (-1)) 1 95 ∧ Int32.ofInt (-1) = (-1 : Int32) := by decide +kernel
theorem q280_95 : qJ 280 95 (.if_icmp .eq 12) 98 (12) 107 := by decide +kernel
theorem q280_98 : qD 280 98 (.iload 6) 2 100 := by decide +kernel
theorem q280_100 : qD 280 100 (.iload_n 3) 1 101 ∧ ((3 : Fin 4) : Nat) = 3 := by decide +kernel
theorem q280_101 : qJ 280 101 (.if_icmp .gt 6) 104 (6) 107 := by decide +kernel
theorem q280_104 : qJ 280 104 (.goto 15) 107 (15) 119 := by decide +kernel
theorem q280_107 : qD 280 107 (.bipush 10) 2 109 ∧ (Int8.ofInt (10)).toInt32 = (10 : Int32) := by decide +kernel
theorem q280_109 : qD 280 109 (.iload 4) 2 111 := by decide +kernel
theorem q280_111 : qD 280 111 (.imul) 1 112 := by decide +kernel
theorem q280_112 : qD 280 112 (.iload 5) 2 114 := by decide +kernel
theorem q280_114 : qD 280 114 (.iadd) 1 115 := by decide +kernel
theorem q280_115 : qD 280 115 (.istore_n 2) 1 116 ∧ ((2 : Fin 4) : Nat) = 2 ∧ 2 < mL 280 := by decide +kernel
theorem q280_116 : qD 280 116 (.iload 6) 2 118 := by decide +kernel
theorem q280_118 : qD 280 118 (.istore_n 3) 1 119 ∧ ((3 : Fin 4) : Nat) = 3 ∧ 3 < mL 280 := by decide +kernel
theorem q280_119 : qD 280 119 (.iinc 5 1) 3 122 ∧ 5 < mL 280 ∧ Int32.ofInt (1) = (1 : Int32) := by decide +kernel
theorem q280_122 : qJ 280 122 (.goto (-76)) 125 (-76) 46 := by decide +kernel
theorem q280_125 : qD 280 125 (.iinc 4 1) 3 128 ∧ 4 < mL 280 ∧ Int32.ofInt (1) = (1 : Int32) := by decide +kernel
theorem q280_128 : qJ 280 128 (.goto (-97)) 131 (-97) 31 := by decide +kernel
theorem q280_131 : qD 280 131 (.iload_n 1) 1 132 ∧ ((1 : Fin 4) : Nat) = 1 := by decide +kernel
theorem q280_132 : qJ 280 132 (.ifCond .ne 7) 135 (7) 139 := by decide +kernel
theorem q280_135 : qD 280 135 (.iload_n 2) 1 136 ∧ ((2 : Fin 4) : Nat) = 2 := by decide +kernel
theorem q280_136 : qJ 280 136 (.goto 4) 139 (4) 140 := by decide +kernel
theorem q280_139 : qD 280 139 (.iload_n 3) 1 140 ∧ ((3 : Fin 4) : Nat) = 3 := by decide +kernel
theorem q280_140 : qD 280 140 (.ireturn) 1 141 ∧ mR 280 = some .int := by decide +kernel
theorem q281_0 : qD 281 0 (.aload_n 0) 1 1 ∧ ((0 : Fin 4) : Nat) = 0 := by decide +kernel
theorem q281_1 : qD 281 1 (.iconst 0) 1 2 ∧ Int32.ofInt (0) = (0 : Int32) := by decide +kernel
theorem q281_2 : qP 281 2 90 5 11 0 1265 0 := by decide +kernel
theorem q281_5 : qD 281 5 (.aload_n 0) 1 6 ∧ ((0 : Fin 4) : Nat) = 0 := by decide +kernel
theorem q281_6 : qG 281 6 285 9 11 26 1291 0 := by decide +kernel
theorem q281_9 : qJ 281 9 (.ifCond .ne 5) 12 (5) 14 := by decide +kernel
theorem q281_12 : qD 281 12 (.iconst (-1)) 1 13 ∧ Int32.ofInt (-1) = (-1 : Int32) := by decide +kernel
theorem q281_13 : qD 281 13 (.ireturn) 1 14 ∧ mR 281 = some .int := by decide +kernel
theorem q281_14 : qD 281 14 (.iconst 0) 1 15 ∧ Int32.ofInt (0) = (0 : Int32) := by decide +kernel
theorem q281_15 : qD 281 15 (.istore_n 1) 1 16 ∧ ((1 : Fin 4) : Nat) = 1 ∧ 1 < mL 281 := by decide +kernel
theorem q281_16 : qD 281 16 (.iconst 1) 1 17 ∧ Int32.ofInt (1) = (1 : Int32) := by decide +kernel
theorem q281_17 : qD 281 17 (.istore_n 2) 1 18 ∧ ((2 : Fin 4) : Nat) = 2 ∧ 2 < mL 281 := by decide +kernel
theorem q281_18 : qD 281 18 (.iload_n 2) 1 19 ∧ ((2 : Fin 4) : Nat) = 2 := by decide +kernel
theorem q281_19 : qD 281 19 (.aload_n 0) 1 20 ∧ ((0 : Fin 4) : Nat) = 0 := by decide +kernel
theorem q281_20 : qG 281 20 288 23 11 27 1292 0 := by decide +kernel
theorem q281_23 : qJ 281 23 (.if_icmp .ge 34) 26 (34) 57 := by decide +kernel
theorem q281_26 : qD 281 26 (.aload_n 0) 1 27 ∧ ((0 : Fin 4) : Nat) = 0 := by decide +kernel
theorem q281_27 : qG 281 27 49 30 11 22 1287 2 := by decide +kernel
theorem q281_30 : qD 281 30 (.iconst 2) 1 31 ∧ Int32.ofInt (2) = (2 : Int32) := by decide +kernel
theorem q281_31 : qD 281 31 (.iload_n 2) 1 32 ∧ ((2 : Fin 4) : Nat) = 2 := by decide +kernel
theorem q281_32 : qD 281 32 (.imul) 1 33 := by decide +kernel
theorem q281_33 : qD 281 33 (.iaload) 1 34 := by decide +kernel
theorem q281_34 : qD 281 34 (.aload_n 0) 1 35 ∧ ((0 : Fin 4) : Nat) = 0 := by decide +kernel
theorem q281_35 : qG 281 35 49 38 11 22 1287 2 := by decide +kernel
theorem q281_38 : qD 281 38 (.iconst 2) 1 39 ∧ Int32.ofInt (2) = (2 : Int32) := by decide +kernel
theorem q281_39 : qD 281 39 (.iload_n 1) 1 40 ∧ ((1 : Fin 4) : Nat) = 1 := by decide +kernel
theorem q281_40 : qD 281 40 (.imul) 1 41 := by decide +kernel
theorem q281_41 : qD 281 41 (.iaload) 1 42 := by decide +kernel
theorem q281_42 : qJ 281 42 (.if_icmp .ge 7) 45 (7) 49 := by decide +kernel
theorem q281_45 : qD 281 45 (.iload_n 2) 1 46 ∧ ((2 : Fin 4) : Nat) = 2 := by decide +kernel
theorem q281_46 : qJ 281 46 (.goto 4) 49 (4) 50 := by decide +kernel
theorem q281_49 : qD 281 49 (.iload_n 1) 1 50 ∧ ((1 : Fin 4) : Nat) = 1 := by decide +kernel
theorem q281_50 : qD 281 50 (.istore_n 1) 1 51 ∧ ((1 : Fin 4) : Nat) = 1 ∧ 1 < mL 281 := by decide +kernel
theorem q281_51 : qD 281 51 (.iinc 2 1) 3 54 ∧ 2 < mL 281 ∧ Int32.ofInt (1) = (1 : Int32) := by decide +kernel
theorem q281_54 : qJ 281 54 (.goto (-36)) 57 (-36) 18 := by decide +kernel
theorem q281_57 : qD 281 57 (.iload_n 1) 1 58 ∧ ((1 : Fin 4) : Nat) = 1 := by decide +kernel
theorem q281_58 : qD 281 58 (.ireturn) 1 59 ∧ mR 281 = some .int := by decide +kernel
theorem q282_0 : qD 282 0 (.aload_n 0) 1 1 ∧ ((0 : Fin 4) : Nat) = 0 := by decide +kernel
theorem q282_1 : qD 282 1 (.iconst 0) 1 2 ∧ Int32.ofInt (0) = (0 : Int32) := by decide +kernel
theorem q282_2 : qP 282 2 90 5 11 0 1265 0 := by decide +kernel
theorem q282_5 : qD 282 5 (.aload_n 0) 1 6 ∧ ((0 : Fin 4) : Nat) = 0 := by decide +kernel
theorem q282_6 : qG 282 6 285 9 11 26 1291 0 := by decide +kernel
theorem q282_9 : qJ 282 9 (.ifCond .ne 7) 12 (7) 16 := by decide +kernel
theorem q282_12 : qD 282 12 (.iconst (-1)) 1 13 ∧ Int32.ofInt (-1) = (-1 : Int32) := by decide +kernel
theorem q282_13 : qJ 282 13 (.goto 11) 16 (11) 24 := by decide +kernel
theorem q282_16 : qD 282 16 (.aload_n 0) 1 17 ∧ ((0 : Fin 4) : Nat) = 0 := by decide +kernel
theorem q282_17 : qD 282 17 (.aload_n 0) 1 18 ∧ ((0 : Fin 4) : Nat) = 0 := by decide +kernel
theorem q282_18 : qG 282 18 61 21 11 32 1297 2 := by decide +kernel
theorem q282_21 : qD 282 21 (.invokevirtual 375) 3 24 ∧ qI 282 375 237 1709 := by decide +kernel
theorem q282_24 : qD 282 24 (.ireturn) 1 25 ∧ mR 282 = some .int := by decide +kernel
theorem q283_0 : qD 283 0 (.aload_n 0) 1 1 ∧ ((0 : Fin 4) : Nat) = 0 := by decide +kernel
theorem q283_1 : qD 283 1 (.iconst 0) 1 2 ∧ Int32.ofInt (0) = (0 : Int32) := by decide +kernel
theorem q283_2 : qP 283 2 90 5 11 0 1265 0 := by decide +kernel
theorem q283_5 : qD 283 5 (.aload_n 0) 1 6 ∧ ((0 : Fin 4) : Nat) = 0 := by decide +kernel
theorem q283_6 : qG 283 6 285 9 11 26 1291 0 := by decide +kernel
theorem q283_9 : qJ 283 9 (.ifCond .ne 5) 12 (5) 14 := by decide +kernel
theorem q283_12 : qD 283 12 (.iconst (-1)) 1 13 ∧ Int32.ofInt (-1) = (-1 : Int32) := by decide +kernel
theorem q283_13 : qD 283 13 (.ireturn) 1 14 ∧ mR 283 = some .int := by decide +kernel
theorem q283_14 : qD 283 14 (.iconst 0) 1 15 ∧ Int32.ofInt (0) = (0 : Int32) := by decide +kernel
theorem q283_15 : qD 283 15 (.istore_n 1) 1 16 ∧ ((1 : Fin 4) : Nat) = 1 ∧ 1 < mL 283 := by decide +kernel
theorem q283_16 : qD 283 16 (.iconst 1) 1 17 ∧ Int32.ofInt (1) = (1 : Int32) := by decide +kernel
theorem q283_17 : qD 283 17 (.istore_n 2) 1 18 ∧ ((2 : Fin 4) : Nat) = 2 ∧ 2 < mL 283 := by decide +kernel
theorem q283_18 : qD 283 18 (.iload_n 2) 1 19 ∧ ((2 : Fin 4) : Nat) = 2 := by decide +kernel
theorem q283_19 : qD 283 19 (.aload_n 0) 1 20 ∧ ((0 : Fin 4) : Nat) = 0 := by decide +kernel
theorem q283_20 : qG 283 20 285 23 11 26 1291 0 := by decide +kernel
theorem q283_23 : qJ 283 23 (.if_icmp .ge 44) 26 (44) 67 := by decide +kernel
theorem q283_26 : qD 283 26 (.aload_n 0) 1 27 ∧ ((0 : Fin 4) : Nat) = 0 := by decide +kernel
theorem q283_27 : qG 283 27 61 30 11 32 1297 2 := by decide +kernel
theorem q283_30 : qD 283 30 (.iconst 4) 1 31 ∧ Int32.ofInt (4) = (4 : Int32) := by decide +kernel
theorem q283_31 : qD 283 31 (.iload_n 2) 1 32 ∧ ((2 : Fin 4) : Nat) = 2 := by decide +kernel
theorem q283_32 : qD 283 32 (.imul) 1 33 := by decide +kernel
theorem q283_33 : qD 283 33 (.iconst 2) 1 34 ∧ Int32.ofInt (2) = (2 : Int32) := by decide +kernel
theorem q283_34 : qD 283 34 (.iadd) 1 35 := by decide +kernel
theorem q283_35 : qD 283 35 (.iaload) 1 36 := by decide +kernel
theorem q283_36 : qD 283 36 (.invokestatic 337) 3 39 ∧ qI 283 337 295 1685 := by decide +kernel
theorem q283_39 : qD 283 39 (.aload_n 0) 1 40 ∧ ((0 : Fin 4) : Nat) = 0 := by decide +kernel
theorem q283_40 : qG 283 40 61 43 11 32 1297 2 := by decide +kernel
theorem q283_43 : qD 283 43 (.iconst 4) 1 44 ∧ Int32.ofInt (4) = (4 : Int32) := by decide +kernel
theorem q283_44 : qD 283 44 (.iload_n 1) 1 45 ∧ ((1 : Fin 4) : Nat) = 1 := by decide +kernel
theorem q283_45 : qD 283 45 (.imul) 1 46 := by decide +kernel
theorem q283_46 : qD 283 46 (.iconst 2) 1 47 ∧ Int32.ofInt (2) = (2 : Int32) := by decide +kernel
theorem q283_47 : qD 283 47 (.iadd) 1 48 := by decide +kernel
theorem q283_48 : qD 283 48 (.iaload) 1 49 := by decide +kernel
theorem q283_49 : qD 283 49 (.invokestatic 337) 3 52 ∧ qI 283 337 295 1685 := by decide +kernel
theorem q283_52 : qJ 283 52 (.if_icmp .le 7) 55 (7) 59 := by decide +kernel
theorem q283_55 : qD 283 55 (.iload_n 2) 1 56 ∧ ((2 : Fin 4) : Nat) = 2 := by decide +kernel
theorem q283_56 : qJ 283 56 (.goto 4) 59 (4) 60 := by decide +kernel
theorem q283_59 : qD 283 59 (.iload_n 1) 1 60 ∧ ((1 : Fin 4) : Nat) = 1 := by decide +kernel
theorem q283_60 : qD 283 60 (.istore_n 1) 1 61 ∧ ((1 : Fin 4) : Nat) = 1 ∧ 1 < mL 283 := by decide +kernel
theorem q283_61 : qD 283 61 (.iinc 2 1) 3 64 ∧ 2 < mL 283 ∧ Int32.ofInt (1) = (1 : Int32) := by decide +kernel
theorem q283_64 : qJ 283 64 (.goto (-46)) 67 (-46) 18 := by decide +kernel
theorem q283_67 : qD 283 67 (.iload_n 1) 1 68 ∧ ((1 : Fin 4) : Nat) = 1 := by decide +kernel
theorem q283_68 : qD 283 68 (.ireturn) 1 69 ∧ mR 283 = some .int := by decide +kernel
theorem q284_0 : qD 284 0 (.aload_n 0) 1 1 ∧ ((0 : Fin 4) : Nat) = 0 := by decide +kernel
theorem q284_1 : qD 284 1 (.iconst 0) 1 2 ∧ Int32.ofInt (0) = (0 : Int32) := by decide +kernel
theorem q284_2 : qP 284 2 90 5 11 0 1265 0 := by decide +kernel
theorem q284_5 : qD 284 5 (.aload_n 0) 1 6 ∧ ((0 : Fin 4) : Nat) = 0 := by decide +kernel
theorem q284_6 : qG 284 6 285 9 11 26 1291 0 := by decide +kernel
theorem q284_9 : qJ 284 9 (.ifCond .eq 13) 12 (13) 22 := by decide +kernel
theorem q284_12 : qD 284 12 (.iload_n 1) 1 13 ∧ ((1 : Fin 4) : Nat) = 1 := by decide +kernel
theorem q284_13 : qD 284 13 (.i2l) 1 14 := by decide +kernel
theorem q284_14 : qD 284 14 (.lconst 0) 1 15 ∧ Int64.ofNat ((0 : Fin 2) : Nat) = 0 := by decide +kernel
theorem q284_15 : qD 284 15 (.lconst 1) 1 16 ∧ Int64.ofNat ((1 : Fin 2) : Nat) = 1 := by decide +kernel
theorem q284_16 : qD 284 16 (.invokestatic 211) 3 19 ∧ qI 284 211 170 1435 := by decide +kernel
theorem q284_19 : qJ 284 19 (.ifCond .ne 5) 22 (5) 24 := by decide +kernel
theorem q284_22 : qD 284 22 (.iconst (-1)) 1 23 ∧ Int32.ofInt (-1) = (-1 : Int32) := by decide +kernel
theorem q284_23 : qD 284 23 (.ireturn) 1 24 ∧ mR 284 = some .int := by decide +kernel
theorem q284_24 : qD 284 24 (.iconst (-1)) 1 25 ∧ Int32.ofInt (-1) = (-1 : Int32) := by decide +kernel
theorem q284_25 : qD 284 25 (.istore_n 2) 1 26 ∧ ((2 : Fin 4) : Nat) = 2 ∧ 2 < mL 284 := by decide +kernel
theorem q284_26 : qD 284 26 (.iconst 0) 1 27 ∧ Int32.ofInt (0) = (0 : Int32) := by decide +kernel
theorem q284_27 : qD 284 27 (.istore_n 3) 1 28 ∧ ((3 : Fin 4) : Nat) = 3 ∧ 3 < mL 284 := by decide +kernel
theorem q284_28 : qD 284 28 (.iconst 0) 1 29 ∧ Int32.ofInt (0) = (0 : Int32) := by decide +kernel
theorem q284_29 : qD 284 29 (.istore 4) 2 31 ∧ 4 < mL 284 := by decide +kernel
theorem q284_31 : qD 284 31 (.iload 4) 2 33 := by decide +kernel
theorem q284_33 : qD 284 33 (.bipush 9) 2 35 ∧ (Int8.ofInt (9)).toInt32 = (9 : Int32) := by decide +kernel
theorem q284_35 : qJ 284 35 (.if_icmp .gt 52) 38 (52) 87 := by decide +kernel
theorem q284_38 : qD 284 38 (.aload_n 0) 1 39 ∧ ((0 : Fin 4) : Nat) = 0 := by decide +kernel
theorem q284_39 : qG 284 39 61 42 11 32 1297 2 := by decide +kernel
theorem q284_42 : qD 284 42 (.aload_n 0) 1 43 ∧ ((0 : Fin 4) : Nat) = 0 := by decide +kernel
theorem q284_43 : qG 284 43 64 46 11 33 1298 2 := by decide +kernel
theorem q284_46 : qD 284 46 (.invokestatic 411) 3 49 ∧ qI 284 411 208 1765 := by decide +kernel
theorem q284_49 : qD 284 49 (.aload_n 0) 1 50 ∧ ((0 : Fin 4) : Nat) = 0 := by decide +kernel
theorem q284_50 : qD 284 50 (.aload_n 0) 1 51 ∧ ((0 : Fin 4) : Nat) = 0 := by decide +kernel
theorem q284_51 : qG 284 51 64 54 11 33 1298 2 := by decide +kernel
theorem q284_54 : qD 284 54 (.iload 4) 2 56 := by decide +kernel
theorem q284_56 : qD 284 56 (.invokevirtual 422) 3 59 ∧ qI 284 422 256 1796 := by decide +kernel
theorem q284_59 : qD 284 59 (.istore 5) 2 61 ∧ 5 < mL 284 := by decide +kernel
theorem q284_61 : qD 284 61 (.iload_n 2) 1 62 ∧ ((2 : Fin 4) : Nat) = 2 := by decide +kernel
theorem q284_62 : qD 284 62 (.iconst (-1)) 1 63 ∧ Int32.ofInt (-1) = (-1 : Int32) := by decide +kernel
theorem q284_63 : qJ 284 63 (.if_icmp .eq 12) 66 (12) 75 := by decide +kernel
theorem q284_66 : qD 284 66 (.iload 5) 2 68 := by decide +kernel
theorem q284_68 : qD 284 68 (.iload_n 3) 1 69 ∧ ((3 : Fin 4) : Nat) = 3 := by decide +kernel
theorem q284_69 : qJ 284 69 (.if_icmp .gt 6) 72 (6) 75 := by decide +kernel
theorem q284_72 : qJ 284 72 (.goto 9) 75 (9) 81 := by decide +kernel
theorem q284_75 : qD 284 75 (.iload 4) 2 77 := by decide +kernel
theorem q284_77 : qD 284 77 (.istore_n 2) 1 78 ∧ ((2 : Fin 4) : Nat) = 2 ∧ 2 < mL 284 := by decide +kernel
theorem q284_78 : qD 284 78 (.iload 5) 2 80 := by decide +kernel
theorem q284_80 : qD 284 80 (.istore_n 3) 1 81 ∧ ((3 : Fin 4) : Nat) = 3 ∧ 3 < mL 284 := by decide +kernel
theorem q284_81 : qD 284 81 (.iinc 4 1) 3 84 ∧ 4 < mL 284 ∧ Int32.ofInt (1) = (1 : Int32) := by decide +kernel
theorem q284_84 : qJ 284 84 (.goto (-53)) 87 (-53) 31 := by decide +kernel
theorem q284_87 : qD 284 87 (.iload_n 1) 1 88 ∧ ((1 : Fin 4) : Nat) = 1 := by decide +kernel
theorem q284_88 : qJ 284 88 (.ifCond .ne 7) 91 (7) 95 := by decide +kernel
theorem q284_91 : qD 284 91 (.iload_n 2) 1 92 ∧ ((2 : Fin 4) : Nat) = 2 := by decide +kernel
theorem q284_92 : qJ 284 92 (.goto 4) 95 (4) 96 := by decide +kernel
theorem q284_95 : qD 284 95 (.iload_n 3) 1 96 ∧ ((3 : Fin 4) : Nat) = 3 := by decide +kernel
theorem q284_96 : qD 284 96 (.ireturn) 1 97 ∧ mR 284 = some .int := by decide +kernel
theorem q285_0 : qD 285 0 (.aload_n 0) 1 1 ∧ ((0 : Fin 4) : Nat) = 0 := by decide +kernel
theorem q285_1 : qD 285 1 (.iload_n 1) 1 2 ∧ ((1 : Fin 4) : Nat) = 1 := by decide +kernel
theorem q285_2 : qD 285 2 (.iload_n 2) 1 3 ∧ ((2 : Fin 4) : Nat) = 2 := by decide +kernel
theorem q285_3 : qD 285 3 (.invokevirtual 369) 3 6 ∧ qI 285 369 233 1690 := by decide +kernel
theorem q285_6 : qJ 285 6 (.ifCond .eq 31) 9 (31) 37 := by decide +kernel
theorem q285_9 : qD 285 9 (.iload_n 1) 1 10 ∧ ((1 : Fin 4) : Nat) = 1 := by decide +kernel
theorem q285_10 : qD 285 10 (.aload_n 0) 1 11 ∧ ((0 : Fin 4) : Nat) = 0 := by decide +kernel
theorem q285_11 : qD 285 11 (.aload_n 0) 1 12 ∧ ((0 : Fin 4) : Nat) = 0 := by decide +kernel
theorem q285_12 : qG 285 12 61 15 11 32 1297 2 := by decide +kernel
theorem q285_15 : qD 285 15 (.invokevirtual 318) 3 18 ∧ qI 285 318 213 1659 := by decide +kernel
theorem q285_18 : qJ 285 18 (.if_icmp .eq 19) 21 (19) 37 := by decide +kernel
theorem q285_21 : qD 285 21 (.iload_n 2) 1 22 ∧ ((2 : Fin 4) : Nat) = 2 := by decide +kernel
theorem q285_22 : qD 285 22 (.aload_n 0) 1 23 ∧ ((0 : Fin 4) : Nat) = 0 := by decide +kernel
theorem q285_23 : qD 285 23 (.aload_n 0) 1 24 ∧ ((0 : Fin 4) : Nat) = 0 := by decide +kernel
theorem q285_24 : qG 285 24 61 27 11 32 1297 2 := by decide +kernel
theorem q285_27 : qD 285 27 (.invokevirtual 318) 3 30 ∧ qI 285 318 213 1659 := by decide +kernel
theorem q285_30 : qJ 285 30 (.if_icmp .eq 7) 33 (7) 37 := by decide +kernel
theorem q285_33 : qD 285 33 (.iconst 1) 1 34 ∧ Int32.ofInt (1) = (1 : Int32) := by decide +kernel
theorem q285_34 : qJ 285 34 (.goto 4) 37 (4) 38 := by decide +kernel
theorem q285_37 : qD 285 37 (.iconst 0) 1 38 ∧ Int32.ofInt (0) = (0 : Int32) := by decide +kernel
theorem q285_38 : qD 285 38 (.ireturn) 1 39 ∧ mR 285 = some .boolean := by decide +kernel
theorem q286_0 : qD 286 0 (.iload_n 3) 1 1 ∧ ((3 : Fin 4) : Nat) = 3 := by decide +kernel
theorem q286_1 : qJ 286 1 (.ifCond .ne 5) 4 (5) 6 := by decide +kernel
theorem q286_4 : qD 286 4 (.iconst 0) 1 5 ∧ Int32.ofInt (0) = (0 : Int32) := by decide +kernel
theorem q286_5 : qD 286 5 (.ireturn) 1 6 ∧ mR 286 = some .int := by decide +kernel
theorem q286_6 : qD 286 6 (.aload_n 0) 1 7 ∧ ((0 : Fin 4) : Nat) = 0 := by decide +kernel
theorem q286_7 : qG 286 7 61 10 11 32 1297 2 := by decide +kernel
theorem q286_10 : qD 286 10 (.aload_n 0) 1 11 ∧ ((0 : Fin 4) : Nat) = 0 := by decide +kernel
theorem q286_11 : qG 286 11 64 14 11 33 1298 2 := by decide +kernel
theorem q286_14 : qD 286 14 (.invokestatic 411) 3 17 ∧ qI 286 411 208 1765 := by decide +kernel
theorem q286_17 : qD 286 17 (.iconst 0) 1 18 ∧ Int32.ofInt (0) = (0 : Int32) := by decide +kernel
theorem q286_18 : qD 286 18 (.istore 5) 2 20 ∧ 5 < mL 286 := by decide +kernel
theorem q286_20 : qD 286 20 (.iconst 0) 1 21 ∧ Int32.ofInt (0) = (0 : Int32) := by decide +kernel
theorem q286_21 : qD 286 21 (.istore 6) 2 23 ∧ 6 < mL 286 := by decide +kernel
theorem q286_23 : qD 286 23 (.iload 6) 2 25 := by decide +kernel
theorem q286_25 : qD 286 25 (.aload_n 0) 1 26 ∧ ((0 : Fin 4) : Nat) = 0 := by decide +kernel
theorem q286_26 : qG 286 26 288 29 11 27 1292 0 := by decide +kernel
theorem q286_29 : qJ 286 29 (.if_icmp .ge 88) 32 (88) 117 := by decide +kernel
theorem q286_32 : qD 286 32 (.aload_n 0) 1 33 ∧ ((0 : Fin 4) : Nat) = 0 := by decide +kernel
theorem q286_33 : qD 286 33 (.aload_n 0) 1 34 ∧ ((0 : Fin 4) : Nat) = 0 := by decide +kernel
theorem q286_34 : qG 286 34 64 37 11 33 1298 2 := by decide +kernel
theorem q286_37 : qD 286 37 (.iload 6) 2 39 := by decide +kernel
theorem q286_39 : qD 286 39 (.invokevirtual 326) 3 42 ∧ qI 286 326 219 1663 := by decide +kernel
theorem q286_42 : qJ 286 42 (.ifCond .ne 6) 45 (6) 48 := by decide +kernel
theorem q286_45 : qJ 286 45 (.goto 66) 48 (66) 111 := by decide +kernel
theorem q286_48 : qD 286 48 (.aload_n 0) 1 49 ∧ ((0 : Fin 4) : Nat) = 0 := by decide +kernel
theorem q286_49 : qD 286 49 (.aload_n 0) 1 50 ∧ ((0 : Fin 4) : Nat) = 0 := by decide +kernel
theorem q286_50 : qG 286 50 64 53 11 33 1298 2 := by decide +kernel
theorem q286_53 : qD 286 53 (.iload 6) 2 55 := by decide +kernel
theorem q286_55 : qD 286 55 (.iconst 0) 1 56 ∧ Int32.ofInt (0) = (0 : Int32) := by decide +kernel
theorem q286_56 : qD 286 56 (.invokevirtual 333) 3 59 ∧ qI 286 333 218 1667 := by decide +kernel
theorem q286_59 : qD 286 59 (.istore 7) 2 61 ∧ 7 < mL 286 := by decide +kernel
theorem q286_61 : qD 286 61 (.iload 7) 2 63 := by decide +kernel
theorem q286_63 : qD 286 63 (.iload_n 1) 1 64 ∧ ((1 : Fin 4) : Nat) = 1 := by decide +kernel
theorem q286_64 : qD 286 64 (.invokestatic 223) 3 67 ∧ qI 286 223 171 1490 := by decide +kernel
theorem q286_67 : qJ 286 67 (.ifCond .ne 6) 70 (6) 73 := by decide +kernel
theorem q286_70 : qJ 286 70 (.goto 41) 73 (41) 111 := by decide +kernel
theorem q286_73 : qD 286 73 (.iload 5) 2 75 := by decide +kernel
theorem q286_75 : qD 286 75 (.iconst 3) 1 76 ∧ Int32.ofInt (3) = (3 : Int32) := by decide +kernel
theorem q286_76 : qD 286 76 (.aload_n 0) 1 77 ∧ ((0 : Fin 4) : Nat) = 0 := by decide +kernel
theorem q286_77 : qG 286 77 37 80 11 18 1283 2 := by decide +kernel
theorem q286_80 : qD 286 80 (.iconst 3) 1 81 ∧ Int32.ofInt (3) = (3 : Int32) := by decide +kernel
theorem q286_81 : qD 286 81 (.iaload) 1 82 := by decide +kernel
theorem q286_82 : qD 286 82 (.isub) 1 83 := by decide +kernel
theorem q286_83 : qD 286 83 (.iadd) 1 84 := by decide +kernel
theorem q286_84 : qD 286 84 (.istore 5) 2 86 ∧ 5 < mL 286 := by decide +kernel
theorem q286_86 : qD 286 86 (.iload 5) 2 88 := by decide +kernel
theorem q286_88 : qD 286 88 (.iload 4) 2 90 := by decide +kernel
theorem q286_90 : qD 286 90 (.iconst 1) 1 91 ∧ Int32.ofInt (1) = (1 : Int32) := by decide +kernel
theorem q286_91 : qJ 286 91 (.if_icmp .ne 16) 94 (16) 107 := by decide +kernel
theorem q286_94 : qD 286 94 (.iload 7) 2 96 := by decide +kernel
theorem q286_96 : qD 286 96 (.iload_n 2) 1 97 ∧ ((2 : Fin 4) : Nat) = 2 := by decide +kernel
theorem q286_97 : qD 286 97 (.invokestatic 223) 3 100 ∧ qI 286 223 171 1490 := by decide +kernel
theorem q286_100 : qJ 286 100 (.ifCond .eq 7) 103 (7) 107 := by decide +kernel
theorem q286_103 : qD 286 103 (.iconst 1) 1 104 ∧ Int32.ofInt (1) = (1 : Int32) := by decide +kernel
theorem q286_104 : qJ 286 104 (.goto 4) 107 (4) 108 := by decide +kernel
theorem q286_107 : qD 286 107 (.iconst 0) 1 108 ∧ Int32.ofInt (0) = (0 : Int32) := by decide +kernel
theorem q286_108 : qD 286 108 (.isub) 1 109 := by decide +kernel
theorem q286_109 : qD 286 109 (.istore 5) 2 111 ∧ 5 < mL 286 := by decide +kernel
theorem q286_111 : qD 286 111 (.iinc 6 1) 3 114 ∧ 6 < mL 286 ∧ Int32.ofInt (1) = (1 : Int32) := by decide +kernel
theorem q286_114 : qJ 286 114 (.goto (-91)) 117 (-91) 23 := by decide +kernel
theorem q286_117 : qD 286 117 (.iload 5) 2 119 := by decide +kernel
theorem q286_119 : qD 286 119 (.ireturn) 1 120 ∧ mR 286 = some .int := by decide +kernel
theorem q287_0 : qD 287 0 (.aload_n 0) 1 1 ∧ ((0 : Fin 4) : Nat) = 0 := by decide +kernel
theorem q287_1 : qD 287 1 (.iconst 0) 1 2 ∧ Int32.ofInt (0) = (0 : Int32) := by decide +kernel
theorem q287_2 : qP 287 2 90 5 11 0 1265 0 := by decide +kernel
theorem q287_5 : qD 287 5 (.aload_n 0) 1 6 ∧ ((0 : Fin 4) : Nat) = 0 := by decide +kernel
theorem q287_6 : qD 287 6 (.iload_n 1) 1 7 ∧ ((1 : Fin 4) : Nat) = 1 := by decide +kernel
theorem q287_7 : qD 287 7 (.iload_n 2) 1 8 ∧ ((2 : Fin 4) : Nat) = 2 := by decide +kernel
theorem q287_8 : qD 287 8 (.invokevirtual 467) 3 11 ∧ qI 287 467 285 1912 := by decide +kernel
theorem q287_11 : qJ 287 11 (.ifCond .eq 36) 14 (36) 47 := by decide +kernel
theorem q287_14 : qD 287 14 (.iload_n 3) 1 15 ∧ ((3 : Fin 4) : Nat) = 3 := by decide +kernel
theorem q287_15 : qD 287 15 (.i2l) 1 16 := by decide +kernel
theorem q287_16 : qD 287 16 (.lconst 0) 1 17 ∧ Int64.ofNat ((0 : Fin 2) : Nat) = 0 := by decide +kernel
theorem q287_17 : qD 287 17 (.lconst 1) 1 18 ∧ Int64.ofNat ((1 : Fin 2) : Nat) = 1 := by decide +kernel
theorem q287_18 : qD 287 18 (.invokestatic 211) 3 21 ∧ qI 287 211 170 1435 := by decide +kernel
theorem q287_21 : qJ 287 21 (.ifCond .eq 26) 24 (26) 47 := by decide +kernel
theorem q287_24 : qD 287 24 (.iload 4) 2 26 := by decide +kernel
theorem q287_26 : qD 287 26 (.i2l) 1 27 := by decide +kernel
theorem q287_27 : qD 287 27 (.lconst 0) 1 28 ∧ Int64.ofNat ((0 : Fin 2) : Nat) = 0 := by decide +kernel
theorem q287_28 : qD 287 28 (.lconst 1) 1 29 ∧ Int64.ofNat ((1 : Fin 2) : Nat) = 1 := by decide +kernel
theorem q287_29 : qD 287 29 (.invokestatic 211) 3 32 ∧ qI 287 211 170 1435 := by decide +kernel
theorem q287_32 : qJ 287 32 (.ifCond .eq 15) 35 (15) 47 := by decide +kernel
theorem q287_35 : qD 287 35 (.aload_n 0) 1 36 ∧ ((0 : Fin 4) : Nat) = 0 := by decide +kernel
theorem q287_36 : qD 287 36 (.iload_n 1) 1 37 ∧ ((1 : Fin 4) : Nat) = 1 := by decide +kernel
theorem q287_37 : qD 287 37 (.iload_n 2) 1 38 ∧ ((2 : Fin 4) : Nat) = 2 := by decide +kernel
theorem q287_38 : qD 287 38 (.iload_n 3) 1 39 ∧ ((3 : Fin 4) : Nat) = 3 := by decide +kernel
theorem q287_39 : qD 287 39 (.iload 4) 2 41 := by decide +kernel
theorem q287_41 : qD 287 41 (.invokevirtual 470) 3 44 ∧ qI 287 470 286 1916 := by decide +kernel
theorem q287_44 : qJ 287 44 (.goto 6) 47 (6) 50 := by decide +kernel
theorem q287_47 : qD 287 47 (.ldc_w 410) 3 50 ∧ inG 1760 (.constant (mN 287).cls 410 (-1000000)) := by decide +kernel
theorem q287_50 : qD 287 50 (.ireturn) 1 51 ∧ mR 287 = some .int := by decide +kernel
theorem q288_0 : qD 288 0 (.aload_n 0) 1 1 ∧ ((0 : Fin 4) : Nat) = 0 := by decide +kernel
theorem q288_1 : qD 288 1 (.iconst 0) 1 2 ∧ Int32.ofInt (0) = (0 : Int32) := by decide +kernel
theorem q288_2 : qP 288 2 90 5 11 0 1265 0 := by decide +kernel
theorem q288_5 : qD 288 5 (.aload_n 0) 1 6 ∧ ((0 : Fin 4) : Nat) = 0 := by decide +kernel
theorem q288_6 : qD 288 6 (.iload_n 1) 1 7 ∧ ((1 : Fin 4) : Nat) = 1 := by decide +kernel
theorem q288_7 : qD 288 7 (.iload_n 2) 1 8 ∧ ((2 : Fin 4) : Nat) = 2 := by decide +kernel
theorem q288_8 : qD 288 8 (.invokevirtual 467) 3 11 ∧ qI 288 467 285 1912 := by decide +kernel
theorem q288_11 : qJ 288 11 (.ifCond .eq 8) 14 (8) 19 := by decide +kernel
theorem q288_14 : qD 288 14 (.iload_n 3) 1 15 ∧ ((3 : Fin 4) : Nat) = 3 := by decide +kernel
theorem q288_15 : qD 288 15 (.iconst (-1)) 1 16 ∧ Int32.ofInt (-1) = (-1 : Int32) := by decide +kernel
theorem q288_16 : qJ 288 16 (.if_icmp .ge 5) 19 (5) 21 := by decide +kernel
theorem q288_19 : qD 288 19 (.iconst (-1)) 1 20 ∧ Int32.ofInt (-1) = (-1 : Int32) := by decide +kernel
theorem q288_20 : qD 288 20 (.ireturn) 1 21 ∧ mR 288 = some .int := by decide +kernel
theorem q288_21 : qD 288 21 (.iconst 0) 1 22 ∧ Int32.ofInt (0) = (0 : Int32) := by decide +kernel
theorem q288_22 : qD 288 22 (.istore 4) 2 24 ∧ 4 < mL 288 := by decide +kernel
theorem q288_24 : qD 288 24 (.iconst 0) 1 25 ∧ Int32.ofInt (0) = (0 : Int32) := by decide +kernel
theorem q288_25 : qD 288 25 (.istore 5) 2 27 ∧ 5 < mL 288 := by decide +kernel
theorem q288_27 : qD 288 27 (.iload 5) 2 29 := by decide +kernel
theorem q288_29 : qD 288 29 (.iconst 4) 1 30 ∧ Int32.ofInt (4) = (4 : Int32) := by decide +kernel
theorem q288_30 : qJ 288 30 (.if_icmp .ge 92) 33 (92) 122 := by decide +kernel
theorem q288_33 : qD 288 33 (.iload 5) 2 35 := by decide +kernel
theorem q288_35 : qD 288 35 (.iconst 2) 1 36 ∧ Int32.ofInt (2) = (2 : Int32) := by decide +kernel
theorem q288_36 : qD 288 36 (.idiv) 1 37 := by decide +kernel
theorem q288_37 : qD 288 37 (.istore 6) 2 39 ∧ 6 < mL 288 := by decide +kernel
theorem q288_39 : qD 288 39 (.iload 5) 2 41 := by decide +kernel
theorem q288_41 : qD 288 41 (.iconst 2) 1 42 ∧ Int32.ofInt (2) = (2 : Int32) := by decide +kernel
theorem q288_42 : qD 288 42 (.irem) 1 43 := by decide +kernel
theorem q288_43 : qD 288 43 (.istore 7) 2 45 ∧ 7 < mL 288 := by decide +kernel
theorem q288_45 : qD 288 45 (.aload_n 0) 1 46 ∧ ((0 : Fin 4) : Nat) = 0 := by decide +kernel
theorem q288_46 : qD 288 46 (.iload_n 1) 1 47 ∧ ((1 : Fin 4) : Nat) = 1 := by decide +kernel
theorem q288_47 : qD 288 47 (.iload_n 2) 1 48 ∧ ((2 : Fin 4) : Nat) = 2 := by decide +kernel
theorem q288_48 : qD 288 48 (.iconst 1) 1 49 ∧ Int32.ofInt (1) = (1 : Int32) := by decide +kernel
theorem q288_49 : qD 288 49 (.iload 6) 2 51 := by decide +kernel
theorem q288_51 : qD 288 51 (.isub) 1 52 := by decide +kernel
theorem q288_52 : qD 288 52 (.iload 7) 2 54 := by decide +kernel
theorem q288_54 : qD 288 54 (.invokevirtual 470) 3 57 ∧ qI 288 470 286 1916 := by decide +kernel
theorem q288_57 : qD 288 57 (.aload_n 0) 1 58 ∧ ((0 : Fin 4) : Nat) = 0 := by decide +kernel
theorem q288_58 : qD 288 58 (.iload_n 1) 1 59 ∧ ((1 : Fin 4) : Nat) = 1 := by decide +kernel
theorem q288_59 : qD 288 59 (.iload_n 2) 1 60 ∧ ((2 : Fin 4) : Nat) = 2 := by decide +kernel
theorem q288_60 : qD 288 60 (.iload 6) 2 62 := by decide +kernel
theorem q288_62 : qD 288 62 (.iload 7) 2 64 := by decide +kernel
theorem q288_64 : qD 288 64 (.invokevirtual 470) 3 67 ∧ qI 288 470 286 1916 := by decide +kernel
theorem q288_67 : qJ 288 67 (.if_icmp .gt 49) 70 (49) 116 := by decide +kernel
theorem q288_70 : qD 288 70 (.aload_n 0) 1 71 ∧ ((0 : Fin 4) : Nat) = 0 := by decide +kernel
theorem q288_71 : qD 288 71 (.iload_n 2) 1 72 ∧ ((2 : Fin 4) : Nat) = 2 := by decide +kernel
theorem q288_72 : qD 288 72 (.iload_n 1) 1 73 ∧ ((1 : Fin 4) : Nat) = 1 := by decide +kernel
theorem q288_73 : qD 288 73 (.iconst 1) 1 74 ∧ Int32.ofInt (1) = (1 : Int32) := by decide +kernel
theorem q288_74 : qD 288 74 (.iload 7) 2 76 := by decide +kernel
theorem q288_76 : qD 288 76 (.isub) 1 77 := by decide +kernel
theorem q288_77 : qD 288 77 (.iload 6) 2 79 := by decide +kernel
theorem q288_79 : qD 288 79 (.invokevirtual 470) 3 82 ∧ qI 288 470 286 1916 := by decide +kernel
theorem q288_82 : qD 288 82 (.aload_n 0) 1 83 ∧ ((0 : Fin 4) : Nat) = 0 := by decide +kernel
theorem q288_83 : qD 288 83 (.iload_n 2) 1 84 ∧ ((2 : Fin 4) : Nat) = 2 := by decide +kernel
theorem q288_84 : qD 288 84 (.iload_n 1) 1 85 ∧ ((1 : Fin 4) : Nat) = 1 := by decide +kernel
theorem q288_85 : qD 288 85 (.iload 7) 2 87 := by decide +kernel
theorem q288_87 : qD 288 87 (.iload 6) 2 89 := by decide +kernel
theorem q288_89 : qD 288 89 (.invokevirtual 470) 3 92 ∧ qI 288 470 286 1916 := by decide +kernel
theorem q288_92 : qJ 288 92 (.if_icmp .le 6) 95 (6) 98 := by decide +kernel
theorem q288_95 : qJ 288 95 (.goto 21) 98 (21) 116 := by decide +kernel
theorem q288_98 : qD 288 98 (.iload 4) 2 100 := by decide +kernel
theorem q288_100 : qD 288 100 (.iload_n 3) 1 101 ∧ ((3 : Fin 4) : Nat) = 3 := by decide +kernel
theorem q288_101 : qJ 288 101 (.if_icmp .ne 12) 104 (12) 113 := by decide +kernel
theorem q288_104 : qD 288 104 (.bipush 10) 2 106 ∧ (Int8.ofInt (10)).toInt32 = (10 : Int32) := by decide +kernel
theorem q288_106 : qD 288 106 (.iload 6) 2 108 := by decide +kernel
theorem q288_108 : qD 288 108 (.imul) 1 109 := by decide +kernel
theorem q288_109 : qD 288 109 (.iload 7) 2 111 := by decide +kernel
theorem q288_111 : qD 288 111 (.iadd) 1 112 := by decide +kernel
theorem q288_112 : qD 288 112 (.ireturn) 1 113 ∧ mR 288 = some .int := by decide +kernel
theorem q288_113 : qD 288 113 (.iinc 4 1) 3 116 ∧ 4 < mL 288 ∧ Int32.ofInt (1) = (1 : Int32) := by decide +kernel
theorem q288_116 : qD 288 116 (.iinc 5 1) 3 119 ∧ 5 < mL 288 ∧ Int32.ofInt (1) = (1 : Int32) := by decide +kernel
theorem q288_119 : qJ 288 119 (.goto (-92)) 122 (-92) 27 := by decide +kernel
theorem q288_122 : qD 288 122 (.iload_n 3) 1 123 ∧ ((3 : Fin 4) : Nat) = 3 := by decide +kernel
theorem q288_123 : qD 288 123 (.iconst (-1)) 1 124 ∧ Int32.ofInt (-1) = (-1 : Int32) := by decide +kernel
theorem q288_124 : qJ 288 124 (.if_icmp .ne 8) 127 (8) 132 := by decide +kernel
theorem q288_127 : qD 288 127 (.iload 4) 2 129 := by decide +kernel
theorem q288_129 : qJ 288 129 (.goto 4) 132 (4) 133 := by decide +kernel
theorem q288_132 : qD 288 132 (.iconst (-1)) 1 133 ∧ Int32.ofInt (-1) = (-1 : Int32) := by decide +kernel
theorem q288_133 : qD 288 133 (.ireturn) 1 134 ∧ mR 288 = some .int := by decide +kernel
theorem q289_0 : qD 289 0 (.aload_n 0) 1 1 ∧ ((0 : Fin 4) : Nat) = 0 := by decide +kernel
theorem q289_1 : qD 289 1 (.iconst 0) 1 2 ∧ Int32.ofInt (0) = (0 : Int32) := by decide +kernel
theorem q289_2 : qP 289 2 90 5 11 0 1265 0 := by decide +kernel
theorem q289_5 : qD 289 5 (.aload_n 0) 1 6 ∧ ((0 : Fin 4) : Nat) = 0 := by decide +kernel
theorem q289_6 : qG 289 6 285 9 11 26 1291 0 := by decide +kernel
theorem q289_9 : qJ 289 9 (.ifCond .ne 5) 12 (5) 14 := by decide +kernel
theorem q289_12 : qD 289 12 (.iconst (-1)) 1 13 ∧ Int32.ofInt (-1) = (-1 : Int32) := by decide +kernel
theorem q289_13 : qD 289 13 (.ireturn) 1 14 ∧ mR 289 = some .int := by decide +kernel
theorem q289_14 : qD 289 14 (.aload_n 0) 1 15 ∧ ((0 : Fin 4) : Nat) = 0 := by decide +kernel
theorem q289_15 : qG 289 15 61 18 11 32 1297 2 := by decide +kernel
theorem q289_18 : qD 289 18 (.aload_n 0) 1 19 ∧ ((0 : Fin 4) : Nat) = 0 := by decide +kernel
theorem q289_19 : qG 289 19 87 22 11 46 1311 2 := by decide +kernel
theorem q289_22 : qD 289 22 (.invokestatic 411) 3 25 ∧ qI 289 411 208 1765 := by decide +kernel
theorem q289_25 : qD 289 25 (.aload_n 0) 1 26 ∧ ((0 : Fin 4) : Nat) = 0 := by decide +kernel
theorem q289_26 : qD 289 26 (.iconst 1) 1 27 ∧ Int32.ofInt (1) = (1 : Int32) := by decide +kernel
theorem q289_27 : qP 289 27 300 30 11 47 1312 0 := by decide +kernel
theorem q289_30 : qD 289 30 (.aload_n 0) 1 31 ∧ ((0 : Fin 4) : Nat) = 0 := by decide +kernel
theorem q289_31 : qG 289 31 61 34 11 32 1297 2 := by decide +kernel
theorem q289_34 : qD 289 34 (.bipush 32) 2 36 ∧ (Int8.ofInt (32)).toInt32 = (32 : Int32) := by decide +kernel
theorem q289_36 : qD 289 36 (.iaload) 1 37 := by decide +kernel
theorem q289_37 : qD 289 37 (.ireturn) 1 38 ∧ mR 289 = some .int := by decide +kernel
theorem q290_0 : qD 290 0 (.aload_n 0) 1 1 ∧ ((0 : Fin 4) : Nat) = 0 := by decide +kernel
theorem q290_1 : qD 290 1 (.iconst 0) 1 2 ∧ Int32.ofInt (0) = (0 : Int32) := by decide +kernel
theorem q290_2 : qP 290 2 90 5 11 0 1265 0 := by decide +kernel
theorem q290_5 : qD 290 5 (.aload_n 0) 1 6 ∧ ((0 : Fin 4) : Nat) = 0 := by decide +kernel
theorem q290_6 : qG 290 6 300 9 11 47 1312 0 := by decide +kernel
theorem q290_9 : qJ 290 9 (.ifCond .ne 5) 12 (5) 14 := by decide +kernel
theorem q290_12 : qD 290 12 (.iconst (-1)) 1 13 ∧ Int32.ofInt (-1) = (-1 : Int32) := by decide +kernel
theorem q290_13 : qD 290 13 (.ireturn) 1 14 ∧ mR 290 = some .int := by decide +kernel
theorem q290_14 : qD 290 14 (.aload_n 0) 1 15 ∧ ((0 : Fin 4) : Nat) = 0 := by decide +kernel
theorem q290_15 : qG 290 15 87 18 11 46 1311 2 := by decide +kernel
theorem q290_18 : qD 290 18 (.aload_n 0) 1 19 ∧ ((0 : Fin 4) : Nat) = 0 := by decide +kernel
theorem q290_19 : qG 290 19 61 22 11 32 1297 2 := by decide +kernel
theorem q290_22 : qD 290 22 (.invokestatic 411) 3 25 ∧ qI 290 411 208 1765 := by decide +kernel
theorem q290_25 : qD 290 25 (.aload_n 0) 1 26 ∧ ((0 : Fin 4) : Nat) = 0 := by decide +kernel
theorem q290_26 : qD 290 26 (.iconst 0) 1 27 ∧ Int32.ofInt (0) = (0 : Int32) := by decide +kernel
theorem q290_27 : qP 290 27 297 30 11 38 1303 0 := by decide +kernel
theorem q290_30 : qD 290 30 (.aload_n 0) 1 31 ∧ ((0 : Fin 4) : Nat) = 0 := by decide +kernel
theorem q290_31 : qG 290 31 61 34 11 32 1297 2 := by decide +kernel
theorem q290_34 : qD 290 34 (.bipush 32) 2 36 ∧ (Int8.ofInt (32)).toInt32 = (32 : Int32) := by decide +kernel
theorem q290_36 : qD 290 36 (.iaload) 1 37 := by decide +kernel
theorem q290_37 : qD 290 37 (.ireturn) 1 38 ∧ mR 290 = some .int := by decide +kernel
theorem q291_0 : qD 291 0 (.aload_n 0) 1 1 ∧ ((0 : Fin 4) : Nat) = 0 := by decide +kernel
theorem q291_1 : qD 291 1 (.iconst 0) 1 2 ∧ Int32.ofInt (0) = (0 : Int32) := by decide +kernel
theorem q291_2 : qP 291 2 90 5 11 0 1265 0 := by decide +kernel
theorem q291_5 : qD 291 5 (.iload_n 1) 1 6 ∧ ((1 : Fin 4) : Nat) = 1 := by decide +kernel
theorem q291_6 : qD 291 6 (.tableswitch 216 0 15 #[78, 83, 88, 93, 98, 103, 108, 116, 136, 144, 152, 160, 193, 198, 203, 211]) 78 84 ∧ (6 : Int) + (216) = (222 : Int) ∧ ((15 : Int) - (0) + 1).toNat = (#[78, 83, 88, 93, 98, 103, 108, 116, 136, 144, 152, 160, 193, 198, 203, 211] : Array Int).size := by decide +kernel
theorem q291_84 : qD 291 84 (.aload_n 0) 1 85 ∧ ((0 : Fin 4) : Nat) = 0 := by decide +kernel
theorem q291_85 : qG 291 85 285 88 11 26 1291 0 := by decide +kernel
theorem q291_88 : qD 291 88 (.ireturn) 1 89 ∧ mR 291 = some .int := by decide +kernel
theorem q291_89 : qD 291 89 (.aload_n 0) 1 90 ∧ ((0 : Fin 4) : Nat) = 0 := by decide +kernel
theorem q291_90 : qG 291 90 288 93 11 27 1292 0 := by decide +kernel
theorem q291_93 : qD 291 93 (.ireturn) 1 94 ∧ mR 291 = some .int := by decide +kernel
theorem q291_94 : qD 291 94 (.aload_n 0) 1 95 ∧ ((0 : Fin 4) : Nat) = 0 := by decide +kernel
theorem q291_95 : qG 291 95 277 98 11 7 1272 0 := by decide +kernel
theorem q291_98 : qD 291 98 (.ireturn) 1 99 ∧ mR 291 = some .int := by decide +kernel
theorem q291_99 : qD 291 99 (.aload_n 0) 1 100 ∧ ((0 : Fin 4) : Nat) = 0 := by decide +kernel
theorem q291_100 : qG 291 100 280 103 11 30 1295 0 := by decide +kernel
theorem q291_103 : qD 291 103 (.ireturn) 1 104 ∧ mR 291 = some .int := by decide +kernel
theorem q291_104 : qD 291 104 (.aload_n 0) 1 105 ∧ ((0 : Fin 4) : Nat) = 0 := by decide +kernel
theorem q291_105 : qG 291 105 103 108 11 6 1271 0 := by decide +kernel
theorem q291_108 : qD 291 108 (.ireturn) 1 109 ∧ mR 291 = some .int := by decide +kernel
theorem q291_109 : qD 291 109 (.aload_n 0) 1 110 ∧ ((0 : Fin 4) : Nat) = 0 := by decide +kernel
theorem q291_110 : qG 291 110 67 113 11 34 1299 0 := by decide +kernel
theorem q291_113 : qD 291 113 (.ireturn) 1 114 ∧ mR 291 = some .int := by decide +kernel
theorem q291_114 : qD 291 114 (.aload_n 0) 1 115 ∧ ((0 : Fin 4) : Nat) = 0 := by decide +kernel
theorem q291_115 : qG 291 115 61 118 11 32 1297 2 := by decide +kernel
theorem q291_118 : qD 291 118 (.bipush 32) 2 120 ∧ (Int8.ofInt (32)).toInt32 = (32 : Int32) := by decide +kernel
theorem q291_120 : qD 291 120 (.iaload) 1 121 := by decide +kernel
theorem q291_121 : qD 291 121 (.ireturn) 1 122 ∧ mR 291 = some .int := by decide +kernel
theorem q291_122 : qD 291 122 (.aload_n 0) 1 123 ∧ ((0 : Fin 4) : Nat) = 0 := by decide +kernel
theorem q291_123 : qG 291 123 285 126 11 26 1291 0 := by decide +kernel
theorem q291_126 : qJ 291 126 (.ifCond .ne 7) 129 (7) 133 := by decide +kernel
theorem q291_129 : qD 291 129 (.iconst (-1)) 1 130 ∧ Int32.ofInt (-1) = (-1 : Int32) := by decide +kernel
theorem q291_130 : qJ 291 130 (.goto 11) 133 (11) 141 := by decide +kernel
theorem q291_133 : qD 291 133 (.aload_n 0) 1 134 ∧ ((0 : Fin 4) : Nat) = 0 := by decide +kernel
theorem q291_134 : qD 291 134 (.aload_n 0) 1 135 ∧ ((0 : Fin 4) : Nat) = 0 := by decide +kernel
theorem q291_135 : qG 291 135 61 138 11 32 1297 2 := by decide +kernel
theorem q291_138 : qD 291 138 (.invokevirtual 318) 3 141 ∧ qI 291 318 213 1659 := by decide +kernel
theorem q291_141 : qD 291 141 (.ireturn) 1 142 ∧ mR 291 = some .int := by decide +kernel
theorem q291_142 : qD 291 142 (.aload_n 0) 1 143 ∧ ((0 : Fin 4) : Nat) = 0 := by decide +kernel
theorem q291_143 : qG 291 143 61 146 11 32 1297 2 := by decide +kernel
theorem q291_146 : qD 291 146 (.bipush 28) 2 148 ∧ (Int8.ofInt (28)).toInt32 = (28 : Int32) := by decide +kernel
theorem q291_148 : qD 291 148 (.iaload) 1 149 := by decide +kernel
theorem q291_149 : qD 291 149 (.ireturn) 1 150 ∧ mR 291 = some .int := by decide +kernel
theorem q291_150 : qD 291 150 (.aload_n 0) 1 151 ∧ ((0 : Fin 4) : Nat) = 0 := by decide +kernel
theorem q291_151 : qG 291 151 61 154 11 32 1297 2 := by decide +kernel
theorem q291_154 : qD 291 154 (.bipush 29) 2 156 ∧ (Int8.ofInt (29)).toInt32 = (29 : Int32) := by decide +kernel
theorem q291_156 : qD 291 156 (.iaload) 1 157 := by decide +kernel
theorem q291_157 : qD 291 157 (.ireturn) 1 158 ∧ mR 291 = some .int := by decide +kernel
theorem q291_158 : qD 291 158 (.aload_n 0) 1 159 ∧ ((0 : Fin 4) : Nat) = 0 := by decide +kernel
theorem q291_159 : qG 291 159 61 162 11 32 1297 2 := by decide +kernel
theorem q291_162 : qD 291 162 (.bipush 30) 2 164 ∧ (Int8.ofInt (30)).toInt32 = (30 : Int32) := by decide +kernel
theorem q291_164 : qD 291 164 (.iaload) 1 165 := by decide +kernel
theorem q291_165 : qD 291 165 (.ireturn) 1 166 ∧ mR 291 = some .int := by decide +kernel
theorem q291_166 : qD 291 166 (.iconst 0) 1 167 ∧ Int32.ofInt (0) = (0 : Int32) := by decide +kernel
theorem q291_167 : qD 291 167 (.istore_n 2) 1 168 ∧ ((2 : Fin 4) : Nat) = 2 ∧ 2 < mL 291 := by decide +kernel
theorem q291_168 : qD 291 168 (.iconst 0) 1 169 ∧ Int32.ofInt (0) = (0 : Int32) := by decide +kernel
theorem q291_169 : qD 291 169 (.istore_n 3) 1 170 ∧ ((3 : Fin 4) : Nat) = 3 ∧ 3 < mL 291 := by decide +kernel
theorem q291_170 : qD 291 170 (.iload_n 3) 1 171 ∧ ((3 : Fin 4) : Nat) = 3 := by decide +kernel
theorem q291_171 : qD 291 171 (.aload_n 0) 1 172 ∧ ((0 : Fin 4) : Nat) = 0 := by decide +kernel
theorem q291_172 : qG 291 172 285 175 11 26 1291 0 := by decide +kernel
theorem q291_175 : qJ 291 175 (.if_icmp .ge 22) 178 (22) 197 := by decide +kernel
theorem q291_178 : qD 291 178 (.iload_n 2) 1 179 ∧ ((2 : Fin 4) : Nat) = 2 := by decide +kernel
theorem q291_179 : qD 291 179 (.aload_n 0) 1 180 ∧ ((0 : Fin 4) : Nat) = 0 := by decide +kernel
theorem q291_180 : qG 291 180 61 183 11 32 1297 2 := by decide +kernel
theorem q291_183 : qD 291 183 (.iconst 4) 1 184 ∧ Int32.ofInt (4) = (4 : Int32) := by decide +kernel
theorem q291_184 : qD 291 184 (.iload_n 3) 1 185 ∧ ((3 : Fin 4) : Nat) = 3 := by decide +kernel
theorem q291_185 : qD 291 185 (.imul) 1 186 := by decide +kernel
theorem q291_186 : qD 291 186 (.iconst 1) 1 187 ∧ Int32.ofInt (1) = (1 : Int32) := by decide +kernel
theorem q291_187 : qD 291 187 (.iadd) 1 188 := by decide +kernel
theorem q291_188 : qD 291 188 (.iaload) 1 189 := by decide +kernel
theorem q291_189 : qD 291 189 (.iadd) 1 190 := by decide +kernel
theorem q291_190 : qD 291 190 (.istore_n 2) 1 191 ∧ ((2 : Fin 4) : Nat) = 2 ∧ 2 < mL 291 := by decide +kernel
theorem q291_191 : qD 291 191 (.iinc 3 1) 3 194 ∧ 3 < mL 291 ∧ Int32.ofInt (1) = (1 : Int32) := by decide +kernel
theorem q291_194 : qJ 291 194 (.goto (-24)) 197 (-24) 170 := by decide +kernel
theorem q291_197 : qD 291 197 (.iload_n 2) 1 198 ∧ ((2 : Fin 4) : Nat) = 2 := by decide +kernel
theorem q291_198 : qD 291 198 (.ireturn) 1 199 ∧ mR 291 = some .int := by decide +kernel
theorem q291_199 : qD 291 199 (.aload_n 0) 1 200 ∧ ((0 : Fin 4) : Nat) = 0 := by decide +kernel
theorem q291_200 : qG 291 200 354 203 11 35 1300 0 := by decide +kernel
theorem q291_203 : qD 291 203 (.ireturn) 1 204 ∧ mR 291 = some .int := by decide +kernel
theorem q291_204 : qD 291 204 (.aload_n 0) 1 205 ∧ ((0 : Fin 4) : Nat) = 0 := by decide +kernel
theorem q291_205 : qG 291 205 294 208 11 45 1310 0 := by decide +kernel
theorem q291_208 : qD 291 208 (.ireturn) 1 209 ∧ mR 291 = some .int := by decide +kernel
theorem q291_209 : qD 291 209 (.aload_n 0) 1 210 ∧ ((0 : Fin 4) : Nat) = 0 := by decide +kernel
theorem q291_210 : qG 291 210 61 213 11 32 1297 2 := by decide +kernel
theorem q291_213 : qD 291 213 (.bipush 33) 2 215 ∧ (Int8.ofInt (33)).toInt32 = (33 : Int32) := by decide +kernel
theorem q291_215 : qD 291 215 (.iaload) 1 216 := by decide +kernel
theorem q291_216 : qD 291 216 (.ireturn) 1 217 ∧ mR 291 = some .int := by decide +kernel
theorem q291_217 : qD 291 217 (.aload_n 0) 1 218 ∧ ((0 : Fin 4) : Nat) = 0 := by decide +kernel
theorem q291_218 : qG 291 218 297 221 11 38 1303 0 := by decide +kernel
theorem q291_221 : qD 291 221 (.ireturn) 1 222 ∧ mR 291 = some .int := by decide +kernel
theorem q291_222 : qD 291 222 (.ldc_w 410) 3 225 ∧ inG 1760 (.constant (mN 291).cls 410 (-1000000)) := by decide +kernel
theorem q291_225 : qD 291 225 (.ireturn) 1 226 ∧ mR 291 = some .int := by decide +kernel
