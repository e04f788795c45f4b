theorem q128_41 : qD 128 41 (.aload_n 2) 1 42 ∧ ((2 : Fin 4) : Nat) = 2 := by decide +kernel
theorem q128_42 : qD 128 42 (.iload_n 3) 1 43 ∧ ((3 : Fin 4) : Nat) = 3 := by decide +kernel
theorem q128_43 : qD 128 43 (.iconst 1) 1 44 ∧ Int32.ofInt (1) = (1 : Int32) := by decide +kernel
theorem q128_44 : qD 128 44 (.invokevirtual 321) 3 47 ∧ qI 128 321 52 979 := by decide +kernel
theorem q128_47 : qD 128 47 (.aload_n 2) 1 48 ∧ ((2 : Fin 4) : Nat) = 2 := by decide +kernel
theorem q128_48 : qD 128 48 (.iload_n 3) 1 49 ∧ ((3 : Fin 4) : Nat) = 3 := by decide +kernel
theorem q128_49 : qD 128 49 (.iconst 2) 1 50 ∧ Int32.ofInt (2) = (2 : Int32) := by decide +kernel
theorem q128_50 : qD 128 50 (.invokevirtual 321) 3 53 ∧ qI 128 321 52 979 := by decide +kernel
theorem q128_53 : qD 128 53 (.invokevirtual 238) 3 56 ∧ qI 128 238 120 770 := by decide +kernel
theorem q128_56 : qJ 128 56 (.ifCond .eq 9) 59 (9) 65 := by decide +kernel
theorem q128_59 : qD 128 59 (.iinc 3 1) 3 62 ∧ 3 < mL 128 ∧ Int32.ofInt (1) = (1 : Int32) := by decide +kernel
theorem q128_62 : qJ 128 62 (.goto (-36)) 65 (-36) 26 := by decide +kernel
theorem q128_65 : qD 128 65 (.iload_n 3) 1 66 ∧ ((3 : Fin 4) : Nat) = 3 := by decide +kernel
theorem q128_66 : qD 128 66 (.ireturn) 1 67 ∧ mR 128 = some .int := by decide +kernel
theorem q129_0 : qD 129 0 (.iload_n 1) 1 1 ∧ ((1 : Fin 4) : Nat) = 1 := by decide +kernel
theorem q129_1 : qJ 129 1 (.ifCond .lt 15) 4 (15) 16 := by decide +kernel
theorem q129_4 : qD 129 4 (.iload_n 1) 1 5 ∧ ((1 : Fin 4) : Nat) = 1 := by decide +kernel
theorem q129_5 : qD 129 5 (.aload_n 0) 1 6 ∧ ((0 : Fin 4) : Nat) = 0 := by decide +kernel
theorem q129_6 : qG 129 6 120 9 10 7 331 0 := by decide +kernel
theorem q129_9 : qJ 129 9 (.if_icmp .ge 7) 12 (7) 16 := by decide +kernel
theorem q129_12 : qD 129 12 (.iconst 1) 1 13 ∧ Int32.ofInt (1) = (1 : Int32) := by decide +kernel
theorem q129_13 : qJ 129 13 (.goto 4) 16 (4) 17 := by decide +kernel
theorem q129_16 : qD 129 16 (.iconst 0) 1 17 ∧ Int32.ofInt (0) = (0 : Int32) := by decide +kernel
theorem q129_17 : qD 129 17 (.ireturn) 1 18 ∧ mR 129 = some .boolean := by decide +kernel
theorem q130_0 : qD 130 0 (.aload_n 1) 1 1 ∧ ((1 : Fin 4) : Nat) = 1 := by decide +kernel
theorem q130_1 : qD 130 1 (.iload_n 2) 1 2 ∧ ((2 : Fin 4) : Nat) = 2 := by decide +kernel
theorem q130_2 : qD 130 2 (.iconst 0) 1 3 ∧ Int32.ofInt (0) = (0 : Int32) := by decide +kernel
theorem q130_3 : qD 130 3 (.invokevirtual 321) 3 6 ∧ qI 130 321 52 979 := by decide +kernel
theorem q130_6 : qD 130 6 (.istore_n 3) 1 7 ∧ ((3 : Fin 4) : Nat) = 3 ∧ 3 < mL 130 := by decide +kernel
theorem q130_7 : qD 130 7 (.aload_n 0) 1 8 ∧ ((0 : Fin 4) : Nat) = 0 := by decide +kernel
theorem q130_8 : qD 130 8 (.aload_n 0) 1 9 ∧ ((0 : Fin 4) : Nat) = 0 := by decide +kernel
theorem q130_9 : qG 130 9 51 12 10 10 334 2 := by decide +kernel
theorem q130_12 : qD 130 12 (.iload_n 3) 1 13 ∧ ((3 : Fin 4) : Nat) = 3 := by decide +kernel
theorem q130_13 : qD 130 13 (.aload_n 1) 1 14 ∧ ((1 : Fin 4) : Nat) = 1 := by decide +kernel
theorem q130_14 : qD 130 14 (.iload_n 2) 1 15 ∧ ((2 : Fin 4) : Nat) = 2 := by decide +kernel
theorem q130_15 : qD 130 15 (.iconst 1) 1 16 ∧ Int32.ofInt (1) = (1 : Int32) := by decide +kernel
theorem q130_16 : qD 130 16 (.invokevirtual 321) 3 19 ∧ qI 130 321 52 979 := by decide +kernel
theorem q130_19 : qD 130 19 (.aload_n 1) 1 20 ∧ ((1 : Fin 4) : Nat) = 1 := by decide +kernel
theorem q130_20 : qD 130 20 (.iload_n 2) 1 21 ∧ ((2 : Fin 4) : Nat) = 2 := by decide +kernel
theorem q130_21 : qD 130 21 (.iconst 2) 1 22 ∧ Int32.ofInt (2) = (2 : Int32) := by decide +kernel
theorem q130_22 : qD 130 22 (.invokevirtual 321) 3 25 ∧ qI 130 321 52 979 := by decide +kernel
theorem q130_25 : qD 130 25 (.invokevirtual 268) 3 28 ∧ qI 130 268 121 774 := by decide +kernel
theorem q130_28 : qJ 130 28 (.ifCond .ne 5) 31 (5) 33 := by decide +kernel
theorem q130_31 : qD 130 31 (.iconst 0) 1 32 ∧ Int32.ofInt (0) = (0 : Int32) := by decide +kernel
theorem q130_32 : qD 130 32 (.ireturn) 1 33 ∧ mR 130 = some .boolean := by decide +kernel
theorem q130_33 : qD 130 33 (.aload_n 0) 1 34 ∧ ((0 : Fin 4) : Nat) = 0 := by decide +kernel
theorem q130_34 : qD 130 34 (.aload_n 0) 1 35 ∧ ((0 : Fin 4) : Nat) = 0 := by decide +kernel
theorem q130_35 : qG 130 35 51 38 10 10 334 2 := by decide +kernel
theorem q130_38 : qD 130 38 (.iload_n 3) 1 39 ∧ ((3 : Fin 4) : Nat) = 3 := by decide +kernel
theorem q130_39 : qD 130 39 (.aload_n 1) 1 40 ∧ ((1 : Fin 4) : Nat) = 1 := by decide +kernel
theorem q130_40 : qD 130 40 (.iload_n 2) 1 41 ∧ ((2 : Fin 4) : Nat) = 2 := by decide +kernel
theorem q130_41 : qD 130 41 (.iconst 1) 1 42 ∧ Int32.ofInt (1) = (1 : Int32) := by decide +kernel
theorem q130_42 : qD 130 42 (.invokevirtual 321) 3 45 ∧ qI 130 321 52 979 := by decide +kernel
theorem q130_45 : qD 130 45 (.aload_n 1) 1 46 ∧ ((1 : Fin 4) : Nat) = 1 := by decide +kernel
theorem q130_46 : qD 130 46 (.iload_n 2) 1 47 ∧ ((2 : Fin 4) : Nat) = 2 := by decide +kernel
theorem q130_47 : qD 130 47 (.iconst 2) 1 48 ∧ Int32.ofInt (2) = (2 : Int32) := by decide +kernel
theorem q130_48 : qD 130 48 (.invokevirtual 321) 3 51 ∧ qI 130 321 52 979 := by decide +kernel
theorem q130_51 : qD 130 51 (.invokevirtual 275) 3 54 ∧ qI 130 275 122 800 := by decide +kernel
theorem q130_54 : qD 130 54 (.iconst 1) 1 55 ∧ Int32.ofInt (1) = (1 : Int32) := by decide +kernel
theorem q130_55 : qD 130 55 (.ireturn) 1 56 ∧ mR 130 = some .boolean := by decide +kernel
theorem q131_0 : qD 131 0 (.aload_n 0) 1 1 ∧ ((0 : Fin 4) : Nat) = 0 := by decide +kernel
theorem q131_1 : qD 131 1 (.iload_n 1) 1 2 ∧ ((1 : Fin 4) : Nat) = 1 := by decide +kernel
theorem q131_2 : qD 131 2 (.invokevirtual 193) 3 5 ∧ qI 131 193 105 715 := by decide +kernel
theorem q131_5 : qJ 131 5 (.ifCond .eq 11) 8 (11) 16 := by decide +kernel
theorem q131_8 : qD 131 8 (.aload_n 0) 1 9 ∧ ((0 : Fin 4) : Nat) = 0 := by decide +kernel
theorem q131_9 : qD 131 9 (.iload_n 2) 1 10 ∧ ((2 : Fin 4) : Nat) = 2 := by decide +kernel
theorem q131_10 : qD 131 10 (.invokevirtual 187) 3 13 ∧ qI 131 187 104 703 := by decide +kernel
theorem q131_13 : qJ 131 13 (.ifCond .ne 5) 16 (5) 18 := by decide +kernel
theorem q131_16 : qD 131 16 (.iconst (-1)) 1 17 ∧ Int32.ofInt (-1) = (-1 : Int32) := by decide +kernel
theorem q131_17 : qD 131 17 (.ireturn) 1 18 ∧ mR 131 = some .int := by decide +kernel
theorem q131_18 : qD 131 18 (.aload_n 0) 1 19 ∧ ((0 : Fin 4) : Nat) = 0 := by decide +kernel
theorem q131_19 : qG 131 19 77 22 10 16 340 2 := by decide +kernel
theorem q131_22 : qD 131 22 (.aload_n 0) 1 23 ∧ ((0 : Fin 4) : Nat) = 0 := by decide +kernel
theorem q131_23 : qG 131 23 19 26 10 1 325 2 := by decide +kernel
theorem q131_26 : qD 131 26 (.aload_n 0) 1 27 ∧ ((0 : Fin 4) : Nat) = 0 := by decide +kernel
theorem q131_27 : qG 131 27 47 30 10 9 333 2 := by decide +kernel
theorem q131_30 : qD 131 30 (.aload_n 0) 1 31 ∧ ((0 : Fin 4) : Nat) = 0 := by decide +kernel
theorem q131_31 : qD 131 31 (.invokevirtual 286) 3 34 ∧ qI 131 286 108 812 := by decide +kernel
theorem q131_34 : qD 131 34 (.iload_n 1) 1 35 ∧ ((1 : Fin 4) : Nat) = 1 := by decide +kernel
theorem q131_35 : qD 131 35 (.aload_n 0) 1 36 ∧ ((0 : Fin 4) : Nat) = 0 := by decide +kernel
theorem q131_36 : qG 131 36 19 39 10 1 325 2 := by decide +kernel
theorem q131_39 : qD 131 39 (.invokevirtual 230) 3 42 ∧ qI 131 230 16 760 := by decide +kernel
theorem q131_42 : qD 131 42 (.invokevirtual 328) 3 45 ∧ qI 131 328 28 999 := by decide +kernel
theorem q131_45 : qD 131 45 (.aload_n 0) 1 46 ∧ ((0 : Fin 4) : Nat) = 0 := by decide +kernel
theorem q131_46 : qG 131 46 77 49 10 16 340 2 := by decide +kernel
theorem q131_49 : qG 131 49 332 52 4 0 278 2 := by decide +kernel
theorem q131_52 : qD 131 52 (.iload_n 2) 1 53 ∧ ((2 : Fin 4) : Nat) = 2 := by decide +kernel
theorem q131_53 : qD 131 53 (.iaload) 1 54 := by decide +kernel
theorem q131_54 : qD 131 54 (.ireturn) 1 55 ∧ mR 131 = some .int := by decide +kernel
theorem q132_0 : qD 132 0 (.aload_n 0) 1 1 ∧ ((0 : Fin 4) : Nat) = 0 := by decide +kernel
theorem q132_1 : qD 132 1 (.iload_n 1) 1 2 ∧ ((1 : Fin 4) : Nat) = 1 := by decide +kernel
theorem q132_2 : qD 132 2 (.invokevirtual 193) 3 5 ∧ qI 132 193 105 715 := by decide +kernel
theorem q132_5 : qJ 132 5 (.ifCond .eq 12) 8 (12) 17 := by decide +kernel
theorem q132_8 : qD 132 8 (.iload_n 2) 1 9 ∧ ((2 : Fin 4) : Nat) = 2 := by decide +kernel
theorem q132_9 : qJ 132 9 (.ifCond .lt 8) 12 (8) 17 := by decide +kernel
theorem q132_12 : qD 132 12 (.iload_n 2) 1 13 ∧ ((2 : Fin 4) : Nat) = 2 := by decide +kernel
theorem q132_13 : qD 132 13 (.iconst 1) 1 14 ∧ Int32.ofInt (1) = (1 : Int32) := by decide +kernel
theorem q132_14 : qJ 132 14 (.if_icmp .le 5) 17 (5) 19 := by decide +kernel
theorem q132_17 : qD 132 17 (.iconst (-1)) 1 18 ∧ Int32.ofInt (-1) = (-1 : Int32) := by decide +kernel
theorem q132_18 : qD 132 18 (.ireturn) 1 19 ∧ mR 132 = some .int := by decide +kernel
theorem q132_19 : qD 132 19 (.aload_n 0) 1 20 ∧ ((0 : Fin 4) : Nat) = 0 := by decide +kernel
theorem q132_20 : qG 132 20 77 23 10 16 340 2 := by decide +kernel
theorem q132_23 : qD 132 23 (.aload_n 0) 1 24 ∧ ((0 : Fin 4) : Nat) = 0 := by decide +kernel
theorem q132_24 : qG 132 24 19 27 10 1 325 2 := by decide +kernel
theorem q132_27 : qD 132 27 (.aload_n 0) 1 28 ∧ ((0 : Fin 4) : Nat) = 0 := by decide +kernel
theorem q132_28 : qG 132 28 47 31 10 9 333 2 := by decide +kernel
theorem q132_31 : qD 132 31 (.aload_n 0) 1 32 ∧ ((0 : Fin 4) : Nat) = 0 := by decide +kernel
theorem q132_32 : qD 132 32 (.invokevirtual 286) 3 35 ∧ qI 132 286 108 812 := by decide +kernel
theorem q132_35 : qD 132 35 (.iload_n 1) 1 36 ∧ ((1 : Fin 4) : Nat) = 1 := by decide +kernel
theorem q132_36 : qD 132 36 (.aload_n 0) 1 37 ∧ ((0 : Fin 4) : Nat) = 0 := by decide +kernel
theorem q132_37 : qG 132 37 19 40 10 1 325 2 := by decide +kernel
theorem q132_40 : qD 132 40 (.invokevirtual 230) 3 43 ∧ qI 132 230 16 760 := by decide +kernel
theorem q132_43 : qD 132 43 (.invokevirtual 328) 3 46 ∧ qI 132 328 28 999 := by decide +kernel
theorem q132_46 : qD 132 46 (.iload_n 2) 1 47 ∧ ((2 : Fin 4) : Nat) = 2 := by decide +kernel
theorem q132_47 : qJ 132 47 (.ifCond .ne 7) 50 (7) 54 := by decide +kernel
theorem q132_50 : qD 132 50 (.iconst (-1)) 1 51 ∧ Int32.ofInt (-1) = (-1 : Int32) := by decide +kernel
theorem q132_51 : qJ 132 51 (.goto 4) 54 (4) 55 := by decide +kernel
theorem q132_54 : qD 132 54 (.iconst 1) 1 55 ∧ Int32.ofInt (1) = (1 : Int32) := by decide +kernel
theorem q132_55 : qD 132 55 (.istore_n 3) 1 56 ∧ ((3 : Fin 4) : Nat) = 3 ∧ 3 < mL 132 := by decide +kernel
theorem q132_56 : qD 132 56 (.aload_n 0) 1 57 ∧ ((0 : Fin 4) : Nat) = 0 := by decide +kernel
theorem q132_57 : qG 132 57 19 60 10 1 325 2 := by decide +kernel
theorem q132_60 : qD 132 60 (.invokevirtual 230) 3 63 ∧ qI 132 230 16 760 := by decide +kernel
theorem q132_63 : qD 132 63 (.iload_n 3) 1 64 ∧ ((3 : Fin 4) : Nat) = 3 := by decide +kernel
theorem q132_64 : qD 132 64 (.iadd) 1 65 := by decide +kernel
theorem q132_65 : qD 132 65 (.istore 4) 2 67 ∧ 4 < mL 132 := by decide +kernel
theorem q132_67 : qD 132 67 (.iload 4) 2 69 := by decide +kernel
theorem q132_69 : qJ 132 69 (.ifCond .lt 42) 72 (42) 111 := by decide +kernel
theorem q132_72 : qD 132 72 (.iload 4) 2 74 := by decide +kernel
theorem q132_74 : qD 132 74 (.aload_n 0) 1 75 ∧ ((0 : Fin 4) : Nat) = 0 := by decide +kernel
theorem q132_75 : qG 132 75 19 78 10 1 325 2 := by decide +kernel
theorem q132_78 : qG 132 78 148 81 3 3 179 0 := by decide +kernel
theorem q132_81 : qJ 132 81 (.if_icmp .ge 30) 84 (30) 111 := by decide +kernel
theorem q132_84 : qD 132 84 (.aload_n 0) 1 85 ∧ ((0 : Fin 4) : Nat) = 0 := by decide +kernel
theorem q132_85 : qG 132 85 77 88 10 16 340 2 := by decide +kernel
theorem q132_88 : qG 132 88 332 91 4 0 278 2 := by decide +kernel
theorem q132_91 : qD 132 91 (.iload 4) 2 93 := by decide +kernel
theorem q132_93 : qD 132 93 (.iaload) 1 94 := by decide +kernel
theorem q132_94 : qJ 132 94 (.ifCond .gt 8) 97 (8) 102 := by decide +kernel
theorem q132_97 : qD 132 97 (.iload 4) 2 99 := by decide +kernel
theorem q132_99 : qD 132 99 (.iload_n 3) 1 100 ∧ ((3 : Fin 4) : Nat) = 3 := by decide +kernel
theorem q132_100 : qD 132 100 (.isub) 1 101 := by decide +kernel
theorem q132_101 : qD 132 101 (.ireturn) 1 102 ∧ mR 132 = some .int := by decide +kernel
theorem q132_102 : qD 132 102 (.iload 4) 2 104 := by decide +kernel
theorem q132_104 : qD 132 104 (.iload_n 3) 1 105 ∧ ((3 : Fin 4) : Nat) = 3 := by decide +kernel
theorem q132_105 : qD 132 105 (.iadd) 1 106 := by decide +kernel
theorem q132_106 : qD 132 106 (.istore 4) 2 108 ∧ 4 < mL 132 := by decide +kernel
theorem q132_108 : qJ 132 108 (.goto (-41)) 111 (-41) 67 := by decide +kernel
theorem q132_111 : qD 132 111 (.iconst (-1)) 1 112 ∧ Int32.ofInt (-1) = (-1 : Int32) := by decide +kernel
theorem q132_112 : qD 132 112 (.ireturn) 1 113 ∧ mR 132 = some .int := by decide +kernel
theorem q133_0 : qD 133 0 (.aload_n 0) 1 1 ∧ ((0 : Fin 4) : Nat) = 0 := by decide +kernel
theorem q133_1 : qD 133 1 (.iload_n 1) 1 2 ∧ ((1 : Fin 4) : Nat) = 1 := by decide +kernel
theorem q133_2 : qD 133 2 (.invokevirtual 193) 3 5 ∧ qI 133 193 105 715 := by decide +kernel
theorem q133_5 : qJ 133 5 (.ifCond .eq 18) 8 (18) 23 := by decide +kernel
theorem q133_8 : qD 133 8 (.aload_n 0) 1 9 ∧ ((0 : Fin 4) : Nat) = 0 := by decide +kernel
theorem q133_9 : qD 133 9 (.aload_n 0) 1 10 ∧ ((0 : Fin 4) : Nat) = 0 := by decide +kernel
theorem q133_10 : qG 133 10 19 13 10 1 325 2 := by decide +kernel
theorem q133_13 : qD 133 13 (.invokevirtual 230) 3 16 ∧ qI 133 230 16 760 := by decide +kernel
theorem q133_16 : qD 133 16 (.iload_n 1) 1 17 ∧ ((1 : Fin 4) : Nat) = 1 := by decide +kernel
theorem q133_17 : qD 133 17 (.invokevirtual 335) 3 20 ∧ qI 133 335 137 1008 := by decide +kernel
theorem q133_20 : qJ 133 20 (.goto 4) 23 (4) 24 := by decide +kernel
theorem q133_23 : qD 133 23 (.iconst (-1)) 1 24 ∧ Int32.ofInt (-1) = (-1 : Int32) := by decide +kernel
theorem q133_24 : qD 133 24 (.ireturn) 1 25 ∧ mR 133 = some .int := by decide +kernel
theorem q134_0 : qD 134 0 (.aload_n 0) 1 1 ∧ ((0 : Fin 4) : Nat) = 0 := by decide +kernel
theorem q134_1 : qD 134 1 (.iload_n 2) 1 2 ∧ ((2 : Fin 4) : Nat) = 2 := by decide +kernel
theorem q134_2 : qD 134 2 (.invokevirtual 193) 3 5 ∧ qI 134 193 105 715 := by decide +kernel
theorem q134_5 : qJ 134 5 (.ifCond .eq 20) 8 (20) 25 := by decide +kernel
theorem q134_8 : qD 134 8 (.iload_n 1) 1 9 ∧ ((1 : Fin 4) : Nat) = 1 := by decide +kernel
theorem q134_9 : qJ 134 9 (.ifCond .lt 16) 12 (16) 25 := by decide +kernel
theorem q134_12 : qD 134 12 (.iload_n 1) 1 13 ∧ ((1 : Fin 4) : Nat) = 1 := by decide +kernel
theorem q134_13 : qD 134 13 (.iconst 1) 1 14 ∧ Int32.ofInt (1) = (1 : Int32) := by decide +kernel
theorem q134_14 : qD 134 14 (.aload_n 0) 1 15 ∧ ((0 : Fin 4) : Nat) = 0 := by decide +kernel
theorem q134_15 : qG 134 15 19 18 10 1 325 2 := by decide +kernel
theorem q134_18 : qG 134 18 148 21 3 3 179 0 := by decide +kernel
theorem q134_21 : qD 134 21 (.ishl) 1 22 := by decide +kernel
theorem q134_22 : qJ 134 22 (.if_icmp .lt 5) 25 (5) 27 := by decide +kernel
theorem q134_25 : qD 134 25 (.iconst (-1)) 1 26 ∧ Int32.ofInt (-1) = (-1 : Int32) := by decide +kernel
theorem q134_26 : qD 134 26 (.ireturn) 1 27 ∧ mR 134 = some .int := by decide +kernel
theorem q134_27 : qD 134 27 (.iconst (-1)) 1 28 ∧ Int32.ofInt (-1) = (-1 : Int32) := by decide +kernel
theorem q134_28 : qD 134 28 (.istore_n 3) 1 29 ∧ ((3 : Fin 4) : Nat) = 3 ∧ 3 < mL 134 := by decide +kernel
theorem q134_29 : qD 134 29 (.bipush 8) 2 31 ∧ (Int8.ofInt (8)).toInt32 = (8 : Int32) := by decide +kernel
theorem q134_31 : qD 134 31 (.istore 4) 2 33 ∧ 4 < mL 134 := by decide +kernel
theorem q134_33 : qD 134 33 (.iconst 0) 1 34 ∧ Int32.ofInt (0) = (0 : Int32) := by decide +kernel
theorem q134_34 : qD 134 34 (.istore 5) 2 36 ∧ 5 < mL 134 := by decide +kernel
theorem q134_36 : qD 134 36 (.iload 5) 2 38 := by decide +kernel
theorem q134_38 : qD 134 38 (.aload_n 0) 1 39 ∧ ((0 : Fin 4) : Nat) = 0 := by decide +kernel
theorem q134_39 : qG 134 39 19 42 10 1 325 2 := by decide +kernel
theorem q134_42 : qG 134 42 148 45 3 3 179 0 := by decide +kernel
theorem q134_45 : qJ 134 45 (.if_icmp .ge 73) 48 (73) 118 := by decide +kernel
theorem q134_48 : qD 134 48 (.aload_n 0) 1 49 ∧ ((0 : Fin 4) : Nat) = 0 := by decide +kernel
theorem q134_49 : qD 134 49 (.iload 5) 2 51 := by decide +kernel
theorem q134_51 : qD 134 51 (.iload_n 2) 1 52 ∧ ((2 : Fin 4) : Nat) = 2 := by decide +kernel
theorem q134_52 : qD 134 52 (.invokevirtual 335) 3 55 ∧ qI 134 335 137 1008 := by decide +kernel
theorem q134_55 : qD 134 55 (.istore 6) 2 57 ∧ 6 < mL 134 := by decide +kernel
theorem q134_57 : qD 134 57 (.iload_n 1) 1 58 ∧ ((1 : Fin 4) : Nat) = 1 := by decide +kernel
theorem q134_58 : qD 134 58 (.iconst 1) 1 59 ∧ Int32.ofInt (1) = (1 : Int32) := by decide +kernel
theorem q134_59 : qD 134 59 (.aload_n 0) 1 60 ∧ ((0 : Fin 4) : Nat) = 0 := by decide +kernel
theorem q134_60 : qG 134 60 47 63 10 9 333 2 := by decide +kernel
theorem q134_63 : qG 134 63 182 66 7 0 240 2 := by decide +kernel
theorem q134_66 : qD 134 66 (.iconst 0) 1 67 ∧ Int32.ofInt (0) = (0 : Int32) := by decide +kernel
theorem q134_67 : qD 134 67 (.iload 5) 2 69 := by decide +kernel
theorem q134_69 : qD 134 69 (.iadd) 1 70 := by decide +kernel
theorem q134_70 : qD 134 70 (.iaload) 1 71 := by decide +kernel
theorem q134_71 : qD 134 71 (.ishl) 1 72 := by decide +kernel
theorem q134_72 : qD 134 72 (.iconst (-1)) 1 73 ∧ Int32.ofInt (-1) = (-1 : Int32) := by decide +kernel
theorem q134_73 : qD 134 73 (.ixor) 1 74 := by decide +kernel
theorem q134_74 : qD 134 74 (.iand) 1 75 := by decide +kernel
theorem q134_75 : qD 134 75 (.istore 7) 2 77 ∧ 7 < mL 134 := by decide +kernel
theorem q134_77 : qD 134 77 (.iload 6) 2 79 := by decide +kernel
theorem q134_79 : qD 134 79 (.iload_n 1) 1 80 ∧ ((1 : Fin 4) : Nat) = 1 := by decide +kernel
theorem q134_80 : qD 134 80 (.iconst (-1)) 1 81 ∧ Int32.ofInt (-1) = (-1 : Int32) := by decide +kernel
theorem q134_81 : qD 134 81 (.ixor) 1 82 := by decide +kernel
theorem q134_82 : qD 134 82 (.iand) 1 83 := by decide +kernel
theorem q134_83 : qD 134 83 (.invokestatic 338) 3 86 ∧ qI 134 338 295 1017 := by decide +kernel
theorem q134_86 : qD 134 86 (.istore 8) 2 88 ∧ 8 < mL 134 := by decide +kernel
theorem q134_88 : qD 134 88 (.iload 7) 2 90 := by decide +kernel
theorem q134_90 : qD 134 90 (.iload 6) 2 92 := by decide +kernel
theorem q134_92 : qD 134 92 (.iconst (-1)) 1 93 ∧ Int32.ofInt (-1) = (-1 : Int32) := by decide +kernel
theorem q134_93 : qD 134 93 (.ixor) 1 94 := by decide +kernel
theorem q134_94 : qD 134 94 (.iand) 1 95 := by decide +kernel
theorem q134_95 : qJ 134 95 (.ifCond .ne 17) 98 (17) 112 := by decide +kernel
theorem q134_98 : qD 134 98 (.iload 8) 2 100 := by decide +kernel
theorem q134_100 : qD 134 100 (.iload 4) 2 102 := by decide +kernel
theorem q134_102 : qJ 134 102 (.if_icmp .ge 10) 105 (10) 112 := by decide +kernel
theorem q134_105 : qD 134 105 (.iload 5) 2 107 := by decide +kernel
theorem q134_107 : qD 134 107 (.istore_n 3) 1 108 ∧ ((3 : Fin 4) : Nat) = 3 ∧ 3 < mL 134 := by decide +kernel
theorem q134_108 : qD 134 108 (.iload 8) 2 110 := by decide +kernel
theorem q134_110 : qD 134 110 (.istore 4) 2 112 ∧ 4 < mL 134 := by decide +kernel
theorem q134_112 : qD 134 112 (.iinc 5 1) 3 115 ∧ 5 < mL 134 ∧ Int32.ofInt (1) = (1 : Int32) := by decide +kernel
theorem q134_115 : qJ 134 115 (.goto (-79)) 118 (-79) 36 := by decide +kernel
theorem q134_118 : qD 134 118 (.iload_n 3) 1 119 ∧ ((3 : Fin 4) : Nat) = 3 := by decide +kernel
theorem q134_119 : qD 134 119 (.ireturn) 1 120 ∧ mR 134 = some .int := by decide +kernel
theorem q135_0 : qD 135 0 (.aload_n 0) 1 1 ∧ ((0 : Fin 4) : Nat) = 0 := by decide +kernel
theorem q135_1 : qD 135 1 (.iload_n 1) 1 2 ∧ ((1 : Fin 4) : Nat) = 1 := by decide +kernel
theorem q135_2 : qD 135 2 (.invokevirtual 187) 3 5 ∧ qI 135 187 104 703 := by decide +kernel
theorem q135_5 : qJ 135 5 (.ifCond .ne 5) 8 (5) 10 := by decide +kernel
theorem q135_8 : qD 135 8 (.iconst (-1)) 1 9 ∧ Int32.ofInt (-1) = (-1 : Int32) := by decide +kernel
theorem q135_9 : qD 135 9 (.ireturn) 1 10 ∧ mR 135 = some .int := by decide +kernel
theorem q135_10 : qD 135 10 (.iconst 0) 1 11 ∧ Int32.ofInt (0) = (0 : Int32) := by decide +kernel
theorem q135_11 : qD 135 11 (.istore_n 2) 1 12 ∧ ((2 : Fin 4) : Nat) = 2 ∧ 2 < mL 135 := by decide +kernel
theorem q135_12 : qD 135 12 (.iload_n 1) 1 13 ∧ ((1 : Fin 4) : Nat) = 1 := by decide +kernel
theorem q135_13 : qD 135 13 (.aload_n 0) 1 14 ∧ ((0 : Fin 4) : Nat) = 0 := by decide +kernel
theorem q135_14 : qG 135 14 19 17 10 1 325 2 := by decide +kernel
theorem q135_17 : qD 135 17 (.invokevirtual 230) 3 20 ∧ qI 135 230 16 760 := by decide +kernel
theorem q135_20 : qD 135 20 (.invokestatic 343) 3 23 ∧ inG 1022 (.methodLink (mN 135).cls 343 Lib.Math.max.name) := by decide +kernel
theorem q135_23 : qD 135 23 (.istore_n 3) 1 24 ∧ ((3 : Fin 4) : Nat) = 3 ∧ 3 < mL 135 := by decide +kernel
theorem q135_24 : qD 135 24 (.iload_n 1) 1 25 ∧ ((1 : Fin 4) : Nat) = 1 := by decide +kernel
theorem q135_25 : qD 135 25 (.aload_n 0) 1 26 ∧ ((0 : Fin 4) : Nat) = 0 := by decide +kernel
theorem q135_26 : qG 135 26 19 29 10 1 325 2 := by decide +kernel
theorem q135_29 : qD 135 29 (.invokevirtual 230) 3 32 ∧ qI 135 230 16 760 := by decide +kernel
theorem q135_32 : qD 135 32 (.invokestatic 233) 3 35 ∧ inG 747 (.methodLink (mN 135).cls 233 Lib.Math.min.name) := by decide +kernel
theorem q135_35 : qD 135 35 (.iconst 1) 1 36 ∧ Int32.ofInt (1) = (1 : Int32) := by decide +kernel
theorem q135_36 : qD 135 36 (.iadd) 1 37 := by decide +kernel
theorem q135_37 : qD 135 37 (.istore 4) 2 39 ∧ 4 < mL 135 := by decide +kernel
theorem q135_39 : qD 135 39 (.iload 4) 2 41 := by decide +kernel
theorem q135_41 : qD 135 41 (.iload_n 3) 1 42 ∧ ((3 : Fin 4) : Nat) = 3 := by decide +kernel
theorem q135_42 : qJ 135 42 (.if_icmp .ge 26) 45 (26) 68 := by decide +kernel
theorem q135_45 : qD 135 45 (.iload_n 2) 1 46 ∧ ((2 : Fin 4) : Nat) = 2 := by decide +kernel
theorem q135_46 : qD 135 46 (.iconst 1) 1 47 ∧ Int32.ofInt (1) = (1 : Int32) := by decide +kernel
theorem q135_47 : qD 135 47 (.aload_n 0) 1 48 ∧ ((0 : Fin 4) : Nat) = 0 := by decide +kernel
theorem q135_48 : qG 135 48 47 51 10 9 333 2 := by decide +kernel
theorem q135_51 : qG 135 51 182 54 7 0 240 2 := by decide +kernel
theorem q135_54 : qD 135 54 (.iconst 0) 1 55 ∧ Int32.ofInt (0) = (0 : Int32) := by decide +kernel
theorem q135_55 : qD 135 55 (.iload 4) 2 57 := by decide +kernel
theorem q135_57 : qD 135 57 (.iadd) 1 58 := by decide +kernel
theorem q135_58 : qD 135 58 (.iaload) 1 59 := by decide +kernel
theorem q135_59 : qD 135 59 (.ishl) 1 60 := by decide +kernel
theorem q135_60 : qD 135 60 (.ior) 1 61 := by decide +kernel
theorem q135_61 : qD 135 61 (.istore_n 2) 1 62 ∧ ((2 : Fin 4) : Nat) = 2 ∧ 2 < mL 135 := by decide +kernel
theorem q135_62 : qD 135 62 (.iinc 4 1) 3 65 ∧ 4 < mL 135 ∧ Int32.ofInt (1) = (1 : Int32) := by decide +kernel
theorem q135_65 : qJ 135 65 (.goto (-26)) 68 (-26) 39 := by decide +kernel
theorem q135_68 : qD 135 68 (.iload_n 2) 1 69 ∧ ((2 : Fin 4) : Nat) = 2 := by decide +kernel
theorem q135_69 : qD 135 69 (.ireturn) 1 70 ∧ mR 135 = some .int := by decide +kernel
theorem q136_0 : qD 136 0 (.aload_n 0) 1 1 ∧ ((0 : Fin 4) : Nat) = 0 := by decide +kernel
theorem q136_1 : qD 136 1 (.invokevirtual 151) 3 4 ∧ qI 136 151 102 695 := by decide +kernel
theorem q136_4 : qJ 136 4 (.ifCond .ne 5) 7 (5) 9 := by decide +kernel
theorem q136_7 : qD 136 7 (.iconst (-1)) 1 8 ∧ Int32.ofInt (-1) = (-1 : Int32) := by decide +kernel
theorem q136_8 : qD 136 8 (.ireturn) 1 9 ∧ mR 136 = some .int := by decide +kernel
theorem q136_9 : qD 136 9 (.iconst 0) 1 10 ∧ Int32.ofInt (0) = (0 : Int32) := by decide +kernel
theorem q136_10 : qD 136 10 (.istore_n 1) 1 11 ∧ ((1 : Fin 4) : Nat) = 1 ∧ 1 < mL 136 := by decide +kernel
theorem q136_11 : qD 136 11 (.iconst 0) 1 12 ∧ Int32.ofInt (0) = (0 : Int32) := by decide +kernel
theorem q136_12 : qD 136 12 (.istore_n 2) 1 13 ∧ ((2 : Fin 4) : Nat) = 2 ∧ 2 < mL 136 := by decide +kernel
theorem q136_13 : qD 136 13 (.iload_n 2) 1 14 ∧ ((2 : Fin 4) : Nat) = 2 := by decide +kernel
theorem q136_14 : qD 136 14 (.aload_n 0) 1 15 ∧ ((0 : Fin 4) : Nat) = 0 := by decide +kernel
theorem q136_15 : qG 136 15 19 18 10 1 325 2 := by decide +kernel
theorem q136_18 : qG 136 18 214 21 3 4 183 0 := by decide +kernel
theorem q136_21 : qJ 136 21 (.if_icmp .ge 39) 24 (39) 60 := by decide +kernel
theorem q136_24 : qD 136 24 (.iload_n 1) 1 25 ∧ ((1 : Fin 4) : Nat) = 1 := by decide +kernel
theorem q136_25 : qD 136 25 (.aload_n 0) 1 26 ∧ ((0 : Fin 4) : Nat) = 0 := by decide +kernel
theorem q136_26 : qG 136 26 19 29 10 1 325 2 := by decide +kernel
theorem q136_29 : qD 136 29 (.aload_n 0) 1 30 ∧ ((0 : Fin 4) : Nat) = 0 := by decide +kernel
theorem q136_30 : qD 136 30 (.invokevirtual 217) 3 33 ∧ qI 136 217 106 756 := by decide +kernel
theorem q136_33 : qD 136 33 (.invokevirtual 179) 3 36 ∧ qI 136 179 23 1027 := by decide +kernel
theorem q136_36 : qD 136 36 (.iload_n 2) 1 37 ∧ ((2 : Fin 4) : Nat) = 2 := by decide +kernel
theorem q136_37 : qJ 136 37 (.if_icmp .ne 7) 40 (7) 44 := by decide +kernel
theorem q136_40 : qD 136 40 (.iconst 0) 1 41 ∧ Int32.ofInt (0) = (0 : Int32) := by decide +kernel
theorem q136_41 : qJ 136 41 (.goto 11) 44 (11) 52 := by decide +kernel
theorem q136_44 : qD 136 44 (.aload_n 0) 1 45 ∧ ((0 : Fin 4) : Nat) = 0 := by decide +kernel
theorem q136_45 : qG 136 45 19 48 10 1 325 2 := by decide +kernel
theorem q136_48 : qD 136 48 (.iload_n 2) 1 49 ∧ ((2 : Fin 4) : Nat) = 2 := by decide +kernel
theorem q136_49 : qD 136 49 (.invokevirtual 196) 3 52 ∧ qI 136 196 25 719 := by decide +kernel
theorem q136_52 : qD 136 52 (.iadd) 1 53 := by decide +kernel
theorem q136_53 : qD 136 53 (.istore_n 1) 1 54 ∧ ((1 : Fin 4) : Nat) = 1 ∧ 1 < mL 136 := by decide +kernel
theorem q136_54 : qD 136 54 (.iinc 2 1) 3 57 ∧ 2 < mL 136 ∧ Int32.ofInt (1) = (1 : Int32) := by decide +kernel
theorem q136_57 : qJ 136 57 (.goto (-44)) 60 (-44) 13 := by decide +kernel
theorem q136_60 : qD 136 60 (.aload_n 0) 1 61 ∧ ((0 : Fin 4) : Nat) = 0 := by decide +kernel
theorem q136_61 : qG 136 61 47 64 10 9 333 2 := by decide +kernel
theorem q136_64 : qG 136 64 182 67 7 0 240 2 := by decide +kernel
theorem q136_67 : qD 136 67 (.bipush 31) 2 69 ∧ (Int8.ofInt (31)).toInt32 = (31 : Int32) := by decide +kernel
theorem q136_69 : qD 136 69 (.iaload) 1 70 := by decide +kernel
theorem q136_70 : qD 136 70 (.istore_n 2) 1 71 ∧ ((2 : Fin 4) : Nat) = 2 ∧ 2 < mL 136 := by decide +kernel
theorem q136_71 : qD 136 71 (.iconst 0) 1 72 ∧ Int32.ofInt (0) = (0 : Int32) := by decide +kernel
theorem q136_72 : qD 136 72 (.istore_n 3) 1 73 ∧ ((3 : Fin 4) : Nat) = 3 ∧ 3 < mL 136 := by decide +kernel
theorem q136_73 : qD 136 73 (.iload_n 3) 1 74 ∧ ((3 : Fin 4) : Nat) = 3 := by decide +kernel
theorem q136_74 : qD 136 74 (.bipush 99) 2 76 ∧ (Int8.ofInt (99)).toInt32 = (99 : Int32) := by decide +kernel
theorem q136_76 : qJ 136 76 (.if_icmp .gt 26) 79 (26) 102 := by decide +kernel
theorem q136_79 : qD 136 79 (.iload_n 2) 1 80 ∧ ((2 : Fin 4) : Nat) = 2 := by decide +kernel
theorem q136_80 : qD 136 80 (.aload_n 0) 1 81 ∧ ((0 : Fin 4) : Nat) = 0 := by decide +kernel
theorem q136_81 : qG 136 81 19 84 10 1 325 2 := by decide +kernel
theorem q136_84 : qD 136 84 (.invokevirtual 279) 3 87 ∧ qI 136 279 18 782 := by decide +kernel
theorem q136_87 : qJ 136 87 (.if_icmp .lt 5) 90 (5) 92 := by decide +kernel
theorem q136_90 : qD 136 90 (.iload_n 3) 1 91 ∧ ((3 : Fin 4) : Nat) = 3 := by decide +kernel
theorem q136_91 : qD 136 91 (.ireturn) 1 92 ∧ mR 136 = some .int := by decide +kernel
theorem q136_92 : qD 136 92 (.iload_n 2) 1 93 ∧ ((2 : Fin 4) : Nat) = 2 := by decide +kernel
theorem q136_93 : qD 136 93 (.iload_n 1) 1 94 ∧ ((1 : Fin 4) : Nat) = 1 := by decide +kernel
theorem q136_94 : qD 136 94 (.iadd) 1 95 := by decide +kernel
theorem q136_95 : qD 136 95 (.istore_n 2) 1 96 ∧ ((2 : Fin 4) : Nat) = 2 ∧ 2 < mL 136 := by decide +kernel
theorem q136_96 : qD 136 96 (.iinc 3 1) 3 99 ∧ 3 < mL 136 ∧ Int32.ofInt (1) = (1 : Int32) := by decide +kernel
theorem q136_99 : qJ 136 99 (.goto (-26)) 102 (-26) 73 := by decide +kernel
theorem q136_102 : qD 136 102 (.iconst (-1)) 1 103 ∧ Int32.ofInt (-1) = (-1 : Int32) := by decide +kernel
theorem q136_103 : qD 136 103 (.ireturn) 1 104 ∧ mR 136 = some .int := by decide +kernel
theorem q137_0 : qD 137 0 (.aload_n 0) 1 1 ∧ ((0 : Fin 4) : Nat) = 0 := by decide +kernel
theorem q137_1 : qG 137 1 77 4 10 16 340 2 := by decide +kernel
theorem q137_4 : qD 137 4 (.aload_n 0) 1 5 ∧ ((0 : Fin 4) : Nat) = 0 := by decide +kernel
theorem q137_5 : qG 137 5 19 8 10 1 325 2 := by decide +kernel
theorem q137_8 : qD 137 8 (.aload_n 0) 1 9 ∧ ((0 : Fin 4) : Nat) = 0 := by decide +kernel
theorem q137_9 : qG 137 9 47 12 10 9 333 2 := by decide +kernel
theorem q137_12 : qD 137 12 (.aload_n 0) 1 13 ∧ ((0 : Fin 4) : Nat) = 0 := by decide +kernel
theorem q137_13 : qD 137 13 (.invokevirtual 286) 3 16 ∧ qI 137 286 108 812 := by decide +kernel
theorem q137_16 : qD 137 16 (.iload_n 2) 1 17 ∧ ((2 : Fin 4) : Nat) = 2 := by decide +kernel
theorem q137_17 : qD 137 17 (.iload_n 1) 1 18 ∧ ((1 : Fin 4) : Nat) = 1 := by decide +kernel
theorem q137_18 : qD 137 18 (.invokevirtual 328) 3 21 ∧ qI 137 328 28 999 := by decide +kernel
theorem q137_21 : qD 137 21 (.aload_n 0) 1 22 ∧ ((0 : Fin 4) : Nat) = 0 := by decide +kernel
theorem q137_22 : qG 137 22 77 25 10 16 340 2 := by decide +kernel
theorem q137_25 : qD 137 25 (.aload_n 0) 1 26 ∧ ((0 : Fin 4) : Nat) = 0 := by decide +kernel
theorem q137_26 : qG 137 26 19 29 10 1 325 2 := by decide +kernel
theorem q137_29 : qD 137 29 (.aload_n 0) 1 30 ∧ ((0 : Fin 4) : Nat) = 0 := by decide +kernel
theorem q137_30 : qG 137 30 47 33 10 9 333 2 := by decide +kernel
theorem q137_33 : qD 137 33 (.iload_n 1) 1 34 ∧ ((1 : Fin 4) : Nat) = 1 := by decide +kernel
theorem q137_34 : qD 137 34 (.invokevirtual 346) 3 37 ∧ qI 137 346 30 1012 := by decide +kernel
theorem q137_37 : qD 137 37 (.ireturn) 1 38 ∧ mR 137 = some .int := by decide +kernel
theorem q138_0 : qD 138 0 (.aload_n 0) 1 1 ∧ ((0 : Fin 4) : Nat) = 0 := by decide +kernel
theorem q138_1 : qD 138 1 (.iload_n 1) 1 2 ∧ ((1 : Fin 4) : Nat) = 1 := by decide +kernel
theorem q138_2 : qD 138 2 (.invokevirtual 159) 3 5 ∧ qI 138 159 103 778 := by decide +kernel
theorem q138_5 : qJ 138 5 (.ifCond .eq 11) 8 (11) 16 := by decide +kernel
theorem q138_8 : qD 138 8 (.aload_n 0) 1 9 ∧ ((0 : Fin 4) : Nat) = 0 := by decide +kernel
theorem q138_9 : qD 138 9 (.iload_n 1) 1 10 ∧ ((1 : Fin 4) : Nat) = 1 := by decide +kernel
theorem q138_10 : qD 138 10 (.invokevirtual 350) 3 13 ∧ qI 138 350 144 1032 := by decide +kernel
theorem q138_13 : qJ 138 13 (.goto 4) 16 (4) 17 := by decide +kernel
theorem q138_16 : qD 138 16 (.iconst (-1)) 1 17 ∧ Int32.ofInt (-1) = (-1 : Int32) := by decide +kernel
theorem q138_17 : qD 138 17 (.ireturn) 1 18 ∧ mR 138 = some .int := by decide +kernel
theorem q139_0 : qD 139 0 (.iconst (-1)) 1 1 ∧ Int32.ofInt (-1) = (-1 : Int32) := by decide +kernel
theorem q139_1 : qD 139 1 (.istore_n 1) 1 2 ∧ ((1 : Fin 4) : Nat) = 1 ∧ 1 < mL 139 := by decide +kernel
theorem q139_2 : qD 139 2 (.iconst (-1)) 1 3 ∧ Int32.ofInt (-1) = (-1 : Int32) := by decide +kernel
theorem q139_3 : qD 139 3 (.istore_n 2) 1 4 ∧ ((2 : Fin 4) : Nat) = 2 ∧ 2 < mL 139 := by decide +kernel
theorem q139_4 : qD 139 4 (.iconst 0) 1 5 ∧ Int32.ofInt (0) = (0 : Int32) := by decide +kernel
theorem q139_5 : qD 139 5 (.istore_n 3) 1 6 ∧ ((3 : Fin 4) : Nat) = 3 ∧ 3 < mL 139 := by decide +kernel
theorem q139_6 : qD 139 6 (.iload_n 3) 1 7 ∧ ((3 : Fin 4) : Nat) = 3 := by decide +kernel
theorem q139_7 : qD 139 7 (.aload_n 0) 1 8 ∧ ((0 : Fin 4) : Nat) = 0 := by decide +kernel
theorem q139_8 : qG 139 8 19 11 10 1 325 2 := by decide +kernel
theorem q139_11 : qG 139 11 148 14 3 3 179 0 := by decide +kernel
theorem q139_14 : qJ 139 14 (.if_icmp .ge 27) 17 (27) 41 := by decide +kernel
theorem q139_17 : qD 139 17 (.aload_n 0) 1 18 ∧ ((0 : Fin 4) : Nat) = 0 := by decide +kernel
theorem q139_18 : qD 139 18 (.iload_n 3) 1 19 ∧ ((3 : Fin 4) : Nat) = 3 := by decide +kernel
theorem q139_19 : qD 139 19 (.invokevirtual 350) 3 22 ∧ qI 139 350 144 1032 := by decide +kernel
theorem q139_22 : qD 139 22 (.istore 4) 2 24 ∧ 4 < mL 139 := by decide +kernel
theorem q139_24 : qD 139 24 (.iload 4) 2 26 := by decide +kernel
theorem q139_26 : qD 139 26 (.iload_n 2) 1 27 ∧ ((2 : Fin 4) : Nat) = 2 := by decide +kernel
theorem q139_27 : qJ 139 27 (.if_icmp .le 8) 30 (8) 35 := by decide +kernel
theorem q139_30 : qD 139 30 (.iload_n 3) 1 31 ∧ ((3 : Fin 4) : Nat) = 3 := by decide +kernel
theorem q139_31 : qD 139 31 (.istore_n 1) 1 32 ∧ ((1 : Fin 4) : Nat) = 1 ∧ 1 < mL 139 := by decide +kernel
theorem q139_32 : qD 139 32 (.iload 4) 2 34 := by decide +kernel
theorem q139_34 : qD 139 34 (.istore_n 2) 1 35 ∧ ((2 : Fin 4) : Nat) = 2 ∧ 2 < mL 139 := by decide +kernel
theorem q139_35 : qD 139 35 (.iinc 3 1) 3 38 ∧ 3 < mL 139 ∧ Int32.ofInt (1) = (1 : Int32) := by decide +kernel
theorem q139_38 : qJ 139 38 (.goto (-32)) 41 (-32) 6 := by decide +kernel
theorem q139_41 : qD 139 41 (.iload_n 1) 1 42 ∧ ((1 : Fin 4) : Nat) = 1 := by decide +kernel
theorem q139_42 : qD 139 42 (.ireturn) 1 43 ∧ mR 139 = some .int := by decide +kernel
theorem q140_0 : qD 140 0 (.aload_n 0) 1 1 ∧ ((0 : Fin 4) : Nat) = 0 := by decide +kernel
theorem q140_1 : qD 140 1 (.invokevirtual 151) 3 4 ∧ qI 140 151 102 695 := by decide +kernel
theorem q140_4 : qJ 140 4 (.ifCond .eq 12) 7 (12) 16 := by decide +kernel
theorem q140_7 : qD 140 7 (.iload_n 1) 1 8 ∧ ((1 : Fin 4) : Nat) = 1 := by decide +kernel
theorem q140_8 : qJ 140 8 (.ifCond .lt 8) 11 (8) 16 := by decide +kernel
theorem q140_11 : qD 140 11 (.iload_n 1) 1 12 ∧ ((1 : Fin 4) : Nat) = 1 := by decide +kernel
theorem q140_12 : qD 140 12 (.iconst 1) 1 13 ∧ Int32.ofInt (1) = (1 : Int32) := by decide +kernel
theorem q140_13 : qJ 140 13 (.if_icmp .le 5) 16 (5) 18 := by decide +kernel
theorem q140_16 : qD 140 16 (.iconst (-1)) 1 17 ∧ Int32.ofInt (-1) = (-1 : Int32) := by decide +kernel
theorem q140_17 : qD 140 17 (.ireturn) 1 18 ∧ mR 140 = some .int := by decide +kernel
theorem q140_18 : qD 140 18 (.iconst (-1)) 1 19 ∧ Int32.ofInt (-1) = (-1 : Int32) := by decide +kernel
theorem q140_19 : qD 140 19 (.istore_n 2) 1 20 ∧ ((2 : Fin 4) : Nat) = 2 ∧ 2 < mL 140 := by decide +kernel
theorem q140_20 : qD 140 20 (.iconst (-1)) 1 21 ∧ Int32.ofInt (-1) = (-1 : Int32) := by decide +kernel
theorem q140_21 : qD 140 21 (.istore_n 3) 1 22 ∧ ((3 : Fin 4) : Nat) = 3 ∧ 3 < mL 140 := by decide +kernel
theorem q140_22 : qD 140 22 (.iconst 0) 1 23 ∧ Int32.ofInt (0) = (0 : Int32) := by decide +kernel
theorem q140_23 : qD 140 23 (.istore 4) 2 25 ∧ 4 < mL 140 := by decide +kernel
theorem q140_25 : qD 140 25 (.iload 4) 2 27 := by decide +kernel
theorem q140_27 : qD 140 27 (.aload_n 0) 1 28 ∧ ((0 : Fin 4) : Nat) = 0 := by decide +kernel
theorem q140_28 : qG 140 28 19 31 10 1 325 2 := by decide +kernel
theorem q140_31 : qG 140 31 148 34 3 3 179 0 := by decide +kernel
theorem q140_34 : qJ 140 34 (.if_icmp .ge 93) 37 (93) 127 := by decide +kernel
theorem q140_37 : qD 140 37 (.iload 4) 2 39 := by decide +kernel
theorem q140_39 : qD 140 39 (.iconst 1) 1 40 ∧ Int32.ofInt (1) = (1 : Int32) := by decide +kernel
theorem q140_40 : qD 140 40 (.iadd) 1 41 := by decide +kernel
theorem q140_41 : qD 140 41 (.istore 5) 2 43 ∧ 5 < mL 140 := by decide +kernel
theorem q140_43 : qD 140 43 (.iload 5) 2 45 := by decide +kernel
theorem q140_45 : qD 140 45 (.aload_n 0) 1 46 ∧ ((0 : Fin 4) : Nat) = 0 := by decide +kernel
theorem q140_46 : qG 140 46 19 49 10 1 325 2 := by decide +kernel
theorem q140_49 : qG 140 49 148 52 3 3 179 0 := by decide +kernel
theorem q140_52 : qJ 140 52 (.if_icmp .ge 69) 55 (69) 121 := by decide +kernel
theorem q140_55 : qD 140 55 (.aload_n 0) 1 56 ∧ ((0 : Fin 4) : Nat) = 0 := by decide +kernel
theorem q140_56 : qG 140 56 51 59 10 10 334 2 := by decide +kernel
theorem q140_59 : qD 140 59 (.aload_n 0) 1 60 ∧ ((0 : Fin 4) : Nat) = 0 := by decide +kernel
theorem q140_60 : qG 140 60 47 63 10 9 333 2 := by decide +kernel
theorem q140_63 : qD 140 63 (.invokevirtual 262) 3 66 ∧ qI 140 262 55 957 := by decide +kernel
theorem q140_66 : qD 140 66 (.aload_n 0) 1 67 ∧ ((0 : Fin 4) : Nat) = 0 := by decide +kernel
theorem q140_67 : qG 140 67 51 70 10 10 334 2 := by decide +kernel
theorem q140_70 : qD 140 70 (.iload 4) 2 72 := by decide +kernel
theorem q140_72 : qD 140 72 (.iload 5) 2 74 := by decide +kernel
theorem q140_74 : qD 140 74 (.aload_n 0) 1 75 ∧ ((0 : Fin 4) : Nat) = 0 := by decide +kernel
theorem q140_75 : qG 140 75 19 78 10 1 325 2 := by decide +kernel
theorem q140_78 : qG 140 78 148 81 3 3 179 0 := by decide +kernel
theorem q140_81 : qD 140 81 (.invokevirtual 282) 3 84 ∧ qI 140 282 58 804 := by decide +kernel
theorem q140_84 : qD 140 84 (.aload_n 0) 1 85 ∧ ((0 : Fin 4) : Nat) = 0 := by decide +kernel
theorem q140_85 : qD 140 85 (.aload_n 0) 1 86 ∧ ((0 : Fin 4) : Nat) = 0 := by decide +kernel
theorem q140_86 : qG 140 86 19 89 10 1 325 2 := by decide +kernel
theorem q140_89 : qD 140 89 (.invokevirtual 290) 3 92 ∧ qI 140 290 19 816 := by decide +kernel
theorem q140_92 : qD 140 92 (.invokevirtual 353) 3 95 ∧ qI 140 353 145 1036 := by decide +kernel
theorem q140_95 : qD 140 95 (.istore 6) 2 97 ∧ 6 < mL 140 := by decide +kernel
theorem q140_97 : qD 140 97 (.iload 6) 2 99 := by decide +kernel
theorem q140_99 : qD 140 99 (.iload_n 3) 1 100 ∧ ((3 : Fin 4) : Nat) = 3 := by decide +kernel
theorem q140_100 : qJ 140 100 (.if_icmp .le 15) 103 (15) 115 := by decide +kernel
theorem q140_103 : qD 140 103 (.bipush 10) 2 105 ∧ (Int8.ofInt (10)).toInt32 = (10 : Int32) := by decide +kernel
theorem q140_105 : qD 140 105 (.iload 4) 2 107 := by decide +kernel
theorem q140_107 : qD 140 107 (.imul) 1 108 := by decide +kernel
theorem q140_108 : qD 140 108 (.iload 5) 2 110 := by decide +kernel
theorem q140_110 : qD 140 110 (.iadd) 1 111 := by decide +kernel
theorem q140_111 : qD 140 111 (.istore_n 2) 1 112 ∧ ((2 : Fin 4) : Nat) = 2 ∧ 2 < mL 140 := by decide +kernel
theorem q140_112 : qD 140 112 (.iload 6) 2 114 := by decide +kernel
theorem q140_114 : qD 140 114 (.istore_n 3) 1 115 ∧ ((3 : Fin 4) : Nat) = 3 ∧ 3 < mL 140 := by decide +kernel
theorem q140_115 : qD 140 115 (.iinc 5 1) 3 118 ∧ 5 < mL 140 ∧ Int32.ofInt (1) = (1 : Int32) := by decide +kernel
theorem q140_118 : qJ 140 118 (.goto (-75)) 121 (-75) 43 := by decide +kernel
theorem q140_121 : qD 140 121 (.iinc 4 1) 3 124 ∧ 4 < mL 140 ∧ Int32.ofInt (1) = (1 : Int32) := by decide +kernel
theorem q140_124 : qJ 140 124 (.goto (-99)) 127 (-99) 25 := by decide +kernel
theorem q140_127 : qD 140 127 (.iload_n 1) 1 128 ∧ ((1 : Fin 4) : Nat) = 1 := by decide +kernel
theorem q140_128 : qJ 140 128 (.ifCond .ne 7) 131 (7) 135 := by decide +kernel
theorem q140_131 : qD 140 131 (.iload_n 2) 1 132 ∧ ((2 : Fin 4) : Nat) = 2 := by decide +kernel
theorem q140_132 : qJ 140 132 (.goto 4) 135 (4) 136 := by decide +kernel
theorem q140_135 : qD 140 135 (.iload_n 3) 1 136 ∧ ((3 : Fin 4) : Nat) = 3 := by decide +kernel
theorem q140_136 : qD 140 136 (.ireturn) 1 137 ∧ mR 140 = some .int := by decide +kernel
theorem q141_0 : qD 141 0 (.aload_n 0) 1 1 ∧ ((0 : Fin 4) : Nat) = 0 := by decide +kernel
theorem q141_1 : qD 141 1 (.invokevirtual 151) 3 4 ∧ qI 141 151 102 695 := by decide +kernel
theorem q141_4 : qJ 141 4 (.ifCond .eq 12) 7 (12) 16 := by decide +kernel
theorem q141_7 : qD 141 7 (.iload_n 1) 1 8 ∧ ((1 : Fin 4) : Nat) = 1 := by decide +kernel
theorem q141_8 : qJ 141 8 (.ifCond .lt 8) 11 (8) 16 := by decide +kernel
theorem q141_11 : qD 141 11 (.iload_n 1) 1 12 ∧ ((1 : Fin 4) : Nat) = 1 := by decide +kernel
theorem q141_12 : qD 141 12 (.iconst 1) 1 13 ∧ Int32.ofInt (1) = (1 : Int32) := by decide +kernel
theorem q141_13 : qJ 141 13 (.if_icmp .le 5) 16 (5) 18 := by decide +kernel
theorem q141_16 : qD 141 16 (.iconst (-1)) 1 17 ∧ Int32.ofInt (-1) = (-1 : Int32) := by decide +kernel
theorem q141_17 : qD 141 17 (.ireturn) 1 18 ∧ mR 141 = some .int := by decide +kernel
theorem q141_18 : qD 141 18 (.iconst (-1)) 1 19 ∧ Int32.ofInt (-1) = (-1 : Int32) := by decide +kernel
theorem q141_19 : qD 141 19 (.istore_n 2) 1 20 ∧ ((2 : Fin 4) : Nat) = 2 ∧ 2 < mL 141 := by decide +kernel
theorem q141_20 : qD 141 20 (.iconst (-1)) 1 21 ∧ Int32.ofInt (-1) = (-1 : Int32) := by decide +kernel
theorem q141_21 : qD 141 21 (.istore_n 3) 1 22 ∧ ((3 : Fin 4) : Nat) = 3 ∧ 3 < mL 141 := by decide +kernel
theorem q141_22 : qD 141 22 (.iconst 0) 1 23 ∧ Int32.ofInt (0) = (0 : Int32) := by decide +kernel
theorem q141_23 : qD 141 23 (.istore 4) 2 25 ∧ 4 < mL 141 := by decide +kernel
theorem q141_25 : qD 141 25 (.iload 4) 2 27 := by decide +kernel
theorem q141_27 : qD 141 27 (.bipush 9) 2 29 ∧ (Int8.ofInt (9)).toInt32 = (9 : Int32) := by decide +kernel
theorem q141_29 : qJ 141 29 (.if_icmp .gt 40) 32 (40) 69 := by decide +kernel
theorem q141_32 : qD 141 32 (.aload_n 0) 1 33 ∧ ((0 : Fin 4) : Nat) = 0 := by decide +kernel
theorem q141_33 : qG 141 33 51 36 10 10 334 2 := by decide +kernel
theorem q141_36 : qD 141 36 (.aload_n 0) 1 37 ∧ ((0 : Fin 4) : Nat) = 0 := by decide +kernel
theorem q141_37 : qG 141 37 47 40 10 9 333 2 := by decide +kernel
theorem q141_40 : qD 141 40 (.invokevirtual 262) 3 43 ∧ qI 141 262 55 957 := by decide +kernel
theorem q141_43 : qD 141 43 (.aload_n 0) 1 44 ∧ ((0 : Fin 4) : Nat) = 0 := by decide +kernel
theorem q141_44 : qD 141 44 (.iload 4) 2 46 := by decide +kernel
theorem q141_46 : qD 141 46 (.invokevirtual 353) 3 49 ∧ qI 141 353 145 1036 := by decide +kernel
theorem q141_49 : qD 141 49 (.istore 5) 2 51 ∧ 5 < mL 141 := by decide +kernel
theorem q141_51 : qD 141 51 (.iload 5) 2 53 := by decide +kernel
theorem q141_53 : qD 141 53 (.iload_n 3) 1 54 ∧ ((3 : Fin 4) : Nat) = 3 := by decide +kernel
theorem q141_54 : qJ 141 54 (.if_icmp .le 9) 57 (9) 63 := by decide +kernel
theorem q141_57 : qD 141 57 (.iload 4) 2 59 := by decide +kernel
theorem q141_59 : qD 141 59 (.istore_n 2) 1 60 ∧ ((2 : Fin 4) : Nat) = 2 ∧ 2 < mL 141 := by decide +kernel
theorem q141_60 : qD 141 60 (.iload 5) 2 62 := by decide +kernel
theorem q141_62 : qD 141 62 (.istore_n 3) 1 63 ∧ ((3 : Fin 4) : Nat) = 3 ∧ 3 < mL 141 := by decide +kernel
theorem q141_63 : qD 141 63 (.iinc 4 1) 3 66 ∧ 4 < mL 141 ∧ Int32.ofInt (1) = (1 : Int32) := by decide +kernel
theorem q141_66 : qJ 141 66 (.goto (-41)) 69 (-41) 25 := by decide +kernel
theorem q141_69 : qD 141 69 (.iload_n 1) 1 70 ∧ ((1 : Fin 4) : Nat) = 1 := by decide +kernel
theorem q141_70 : qJ 141 70 (.ifCond .ne 7) 73 (7) 77 := by decide +kernel
theorem q141_73 : qD 141 73 (.iload_n 2) 1 74 ∧ ((2 : Fin 4) : Nat) = 2 := by decide +kernel
theorem q141_74 : qJ 141 74 (.goto 4) 77 (4) 78 := by decide +kernel
theorem q141_77 : qD 141 77 (.iload_n 3) 1 78 ∧ ((3 : Fin 4) : Nat) = 3 := by decide +kernel
theorem q141_78 : qD 141 78 (.ireturn) 1 79 ∧ mR 141 = some .int := by decide +kernel
theorem q142_0 : qD 142 0 (.aload_n 0) 1 1 ∧ ((0 : Fin 4) : Nat) = 0 := by decide +kernel
theorem q142_1 : qD 142 1 (.iload_n 1) 1 2 ∧ ((1 : Fin 4) : Nat) = 1 := by decide +kernel
theorem q142_2 : qD 142 2 (.iload_n 2) 1 3 ∧ ((2 : Fin 4) : Nat) = 2 := by decide +kernel
theorem q142_3 : qD 142 3 (.invokevirtual 356) 3 6 ∧ qI 142 356 146 1056 := by decide +kernel
theorem q142_6 : qJ 142 6 (.ifCond .eq 23) 9 (23) 29 := by decide +kernel
theorem q142_9 : qD 142 9 (.iload_n 3) 1 10 ∧ ((3 : Fin 4) : Nat) = 3 := by decide +kernel
theorem q142_10 : qJ 142 10 (.ifCond .lt 19) 13 (19) 29 := by decide +kernel
theorem q142_13 : qD 142 13 (.iload_n 3) 1 14 ∧ ((3 : Fin 4) : Nat) = 3 := by decide +kernel
theorem q142_14 : qD 142 14 (.iconst 1) 1 15 ∧ Int32.ofInt (1) = (1 : Int32) := by decide +kernel
theorem q142_15 : qJ 142 15 (.if_icmp .gt 14) 18 (14) 29 := by decide +kernel
theorem q142_18 : qD 142 18 (.iload 4) 2 20 := by decide +kernel
theorem q142_20 : qJ 142 20 (.ifCond .lt 9) 23 (9) 29 := by decide +kernel
theorem q142_23 : qD 142 23 (.iload 4) 2 25 := by decide +kernel
theorem q142_25 : qD 142 25 (.iconst 1) 1 26 ∧ Int32.ofInt (1) = (1 : Int32) := by decide +kernel
theorem q142_26 : qJ 142 26 (.if_icmp .le 6) 29 (6) 32 := by decide +kernel
theorem q142_29 : qD 142 29 (.ldc 229) 2 31 ∧ inG 765 (.constant (mN 142).cls 229 (-1000000)) := by decide +kernel
theorem q142_31 : qD 142 31 (.ireturn) 1 32 ∧ mR 142 = some .int := by decide +kernel
theorem q142_32 : qD 142 32 (.aload_n 0) 1 33 ∧ ((0 : Fin 4) : Nat) = 0 := by decide +kernel
theorem q142_33 : qD 142 33 (.invokevirtual 360) 3 36 ∧ qI 142 360 147 1060 := by decide +kernel
theorem q142_36 : qD 142 36 (.aload_n 0) 1 37 ∧ ((0 : Fin 4) : Nat) = 0 := by decide +kernel
theorem q142_37 : qD 142 37 (.iload_n 1) 1 38 ∧ ((1 : Fin 4) : Nat) = 1 := by decide +kernel
theorem q142_38 : qD 142 38 (.iload_n 2) 1 39 ∧ ((2 : Fin 4) : Nat) = 2 := by decide +kernel
theorem q142_39 : qD 142 39 (.iload_n 3) 1 40 ∧ ((3 : Fin 4) : Nat) = 3 := by decide +kernel
theorem q142_40 : qD 142 40 (.iload 4) 2 42 := by decide +kernel
theorem q142_42 : qD 142 42 (.invokevirtual 363) 3 45 ∧ qI 142 363 148 1064 := by decide +kernel
theorem q142_45 : qD 142 45 (.ireturn) 1 46 ∧ mR 142 = some .int := by decide +kernel
theorem q143_0 : qD 143 0 (.aload_n 0) 1 1 ∧ ((0 : Fin 4) : Nat) = 0 := by decide +kernel
theorem q143_1 : qD 143 1 (.iload_n 1) 1 2 ∧ ((1 : Fin 4) : Nat) = 1 := by decide +kernel
theorem q143_2 : qD 143 2 (.iload_n 2) 1 3 ∧ ((2 : Fin 4) : Nat) = 2 := by decide +kernel
theorem q143_3 : qD 143 3 (.invokevirtual 356) 3 6 ∧ qI 143 356 146 1056 := by decide +kernel
theorem q143_6 : qJ 143 6 (.ifCond .eq 8) 9 (8) 14 := by decide +kernel
theorem q143_9 : qD 143 9 (.iload_n 3) 1 10 ∧ ((3 : Fin 4) : Nat) = 3 := by decide +kernel
theorem q143_10 : qD 143 10 (.iconst (-1)) 1 11 ∧ Int32.ofInt (-1) = (-1 : Int32) := by decide +kernel
theorem q143_11 : qJ 143 11 (.if_icmp .ge 5) 14 (5) 16 := by decide +kernel
theorem q143_14 : qD 143 14 (.iconst (-1)) 1 15 ∧ Int32.ofInt (-1) = (-1 : Int32) := by decide +kernel
theorem q143_15 : qD 143 15 (.ireturn) 1 16 ∧ mR 143 = some .int := by decide +kernel
theorem q143_16 : qD 143 16 (.aload_n 0) 1 17 ∧ ((0 : Fin 4) : Nat) = 0 := by decide +kernel
theorem q143_17 : qD 143 17 (.invokevirtual 360) 3 20 ∧ qI 143 360 147 1060 := by decide +kernel
theorem q143_20 : qD 143 20 (.iconst 0) 1 21 ∧ Int32.ofInt (0) = (0 : Int32) := by decide +kernel
theorem q143_21 : qD 143 21 (.istore 4) 2 23 ∧ 4 < mL 143 := by decide +kernel
theorem q143_23 : qD 143 23 (.iconst 0) 1 24 ∧ Int32.ofInt (0) = (0 : Int32) := by decide +kernel
theorem q143_24 : qD 143 24 (.istore 5) 2 26 ∧ 5 < mL 143 := by decide +kernel
theorem q143_26 : qD 143 26 (.iload 5) 2 28 := by decide +kernel
theorem q143_28 : qD 143 28 (.iconst 4) 1 29 ∧ Int32.ofInt (4) = (4 : Int32) := by decide +kernel
theorem q143_29 : qJ 143 29 (.if_icmp .ge 89) 32 (89) 118 := by decide +kernel
theorem q143_32 : qD 143 32 (.iload 5) 2 34 := by decide +kernel
theorem q143_34 : qD 143 34 (.iconst 1) 1 35 ∧ Int32.ofInt (1) = (1 : Int32) := by decide +kernel
theorem q143_35 : qD 143 35 (.ishr) 1 36 := by decide +kernel
theorem q143_36 : qD 143 36 (.istore 6) 2 38 ∧ 6 < mL 143 := by decide +kernel
theorem q143_38 : qD 143 38 (.iload 5) 2 40 := by decide +kernel
theorem q143_40 : qD 143 40 (.iconst 1) 1 41 ∧ Int32.ofInt (1) = (1 : Int32) := by decide +kernel
theorem q143_41 : qD 143 41 (.iand) 1 42 := by decide +kernel
theorem q143_42 : qD 143 42 (.istore 7) 2 44 ∧ 7 < mL 143 := by decide +kernel
theorem q143_44 : qD 143 44 (.aload_n 0) 1 45 ∧ ((0 : Fin 4) : Nat) = 0 := by decide +kernel
theorem q143_45 : qD 143 45 (.iload_n 1) 1 46 ∧ ((1 : Fin 4) : Nat) = 1 := by decide +kernel
theorem q143_46 : qD 143 46 (.iload_n 2) 1 47 ∧ ((2 : Fin 4) : Nat) = 2 := by decide +kernel
theorem q143_47 : qD 143 47 (.iload 6) 2 49 := by decide +kernel
theorem q143_49 : qD 143 49 (.iload 7) 2 51 := by decide +kernel
theorem q143_51 : qD 143 51 (.invokevirtual 363) 3 54 ∧ qI 143 363 148 1064 := by decide +kernel
theorem q143_54 : qD 143 54 (.aload_n 0) 1 55 ∧ ((0 : Fin 4) : Nat) = 0 := by decide +kernel
theorem q143_55 : qD 143 55 (.iload_n 1) 1 56 ∧ ((1 : Fin 4) : Nat) = 1 := by decide +kernel
theorem q143_56 : qD 143 56 (.iload_n 2) 1 57 ∧ ((2 : Fin 4) : Nat) = 2 := by decide +kernel
theorem q143_57 : qD 143 57 (.iconst 1) 1 58 ∧ Int32.ofInt (1) = (1 : Int32) := by decide +kernel
theorem q143_58 : qD 143 58 (.iload 6) 2 60 := by decide +kernel
theorem q143_60 : qD 143 60 (.isub) 1 61 := by decide +kernel
theorem q143_61 : qD 143 61 (.iload 7) 2 63 := by decide +kernel
theorem q143_63 : qD 143 63 (.invokevirtual 363) 3 66 ∧ qI 143 363 148 1064 := by decide +kernel
theorem q143_66 : qJ 143 66 (.if_icmp .lt 46) 69 (46) 112 := by decide +kernel
theorem q143_69 : qD 143 69 (.aload_n 0) 1 70 ∧ ((0 : Fin 4) : Nat) = 0 := by decide +kernel
theorem q143_70 : qD 143 70 (.iload_n 2) 1 71 ∧ ((2 : Fin 4) : Nat) = 2 := by decide +kernel
theorem q143_71 : qD 143 71 (.iload_n 1) 1 72 ∧ ((1 : Fin 4) : Nat) = 1 := by decide +kernel
theorem q143_72 : qD 143 72 (.iload 7) 2 74 := by decide +kernel
theorem q143_74 : qD 143 74 (.iload 6) 2 76 := by decide +kernel
theorem q143_76 : qD 143 76 (.invokevirtual 363) 3 79 ∧ qI 143 363 148 1064 := by decide +kernel
theorem q143_79 : qD 143 79 (.aload_n 0) 1 80 ∧ ((0 : Fin 4) : Nat) = 0 := by decide +kernel
theorem q143_80 : qD 143 80 (.iload_n 2) 1 81 ∧ ((2 : Fin 4) : Nat) = 2 := by decide +kernel
theorem q143_81 : qD 143 81 (.iload_n 1) 1 82 ∧ ((1 : Fin 4) : Nat) = 1 := by decide +kernel
theorem q143_82 : qD 143 82 (.iconst 1) 1 83 ∧ Int32.ofInt (1) = (1 : Int32) := by decide +kernel
theorem q143_83 : qD 143 83 (.iload 7) 2 85 := by decide +kernel
theorem q143_85 : qD 143 85 (.isub) 1 86 := by decide +kernel
theorem q143_86 : qD 143 86 (.iload 6) 2 88 := by decide +kernel
theorem q143_88 : qD 143 88 (.invokevirtual 363) 3 91 ∧ qI 143 363 148 1064 := by decide +kernel
theorem q143_91 : qJ 143 91 (.if_icmp .lt 21) 94 (21) 112 := by decide +kernel
theorem q143_94 : qD 143 94 (.iload 4) 2 96 := by decide +kernel
theorem q143_96 : qD 143 96 (.iload_n 3) 1 97 ∧ ((3 : Fin 4) : Nat) = 3 := by decide +kernel
theorem q143_97 : qJ 143 97 (.if_icmp .ne 12) 100 (12) 109 := by decide +kernel
theorem q143_100 : qD 143 100 (.bipush 10) 2 102 ∧ (Int8.ofInt (10)).toInt32 = (10 : Int32) := by decide +kernel
theorem q143_102 : qD 143 102 (.iload 6) 2 104 := by decide +kernel
theorem q143_104 : qD 143 104 (.imul) 1 105 := by decide +kernel
theorem q143_105 : qD 143 105 (.iload 7) 2 107 := by decide +kernel
theorem q143_107 : qD 143 107 (.iadd) 1 108 := by decide +kernel
theorem q143_108 : qD 143 108 (.ireturn) 1 109 ∧ mR 143 = some .int := by decide +kernel
theorem q143_109 : qD 143 109 (.iinc 4 1) 3 112 ∧ 4 < mL 143 ∧ Int32.ofInt (1) = (1 : Int32) := by decide +kernel
theorem q143_112 : qD 143 112 (.iinc 5 1) 3 115 ∧ 5 < mL 143 ∧ Int32.ofInt (1) = (1 : Int32) := by decide +kernel
theorem q143_115 : qJ 143 115 (.goto (-89)) 118 (-89) 26 := by decide +kernel
theorem q143_118 : qD 143 118 (.iload_n 3) 1 119 ∧ ((3 : Fin 4) : Nat) = 3 := by decide +kernel
theorem q143_119 : qD 143 119 (.iconst (-1)) 1 120 ∧ Int32.ofInt (-1) = (-1 : Int32) := by decide +kernel
theorem q143_120 : qJ 143 120 (.if_icmp .ne 8) 123 (8) 128 := by decide +kernel
theorem q143_123 : qD 143 123 (.iload 4) 2 125 := by decide +kernel
theorem q143_125 : qJ 143 125 (.goto 4) 128 (4) 129 := by decide +kernel
theorem q143_128 : qD 143 128 (.iconst (-1)) 1 129 ∧ Int32.ofInt (-1) = (-1 : Int32) := by decide +kernel
theorem q143_129 : qD 143 129 (.ireturn) 1 130 ∧ mR 143 = some .int := by decide +kernel
theorem q144_0 : qD 144 0 (.aload_n 0) 1 1 ∧ ((0 : Fin 4) : Nat) = 0 := by decide +kernel
theorem q144_1 : qG 144 1 51 4 10 10 334 2 := by decide +kernel
theorem q144_4 : qD 144 4 (.aload_n 0) 1 5 ∧ ((0 : Fin 4) : Nat) = 0 := by decide +kernel
theorem q144_5 : qG 144 5 47 8 10 9 333 2 := by decide +kernel
theorem q144_8 : qD 144 8 (.invokevirtual 262) 3 11 ∧ qI 144 262 55 957 := by decide +kernel
theorem q144_11 : qD 144 11 (.aload_n 0) 1 12 ∧ ((0 : Fin 4) : Nat) = 0 := by decide +kernel
theorem q144_12 : qG 144 12 51 15 10 10 334 2 := by decide +kernel
theorem q144_15 : qD 144 15 (.aload_n 0) 1 16 ∧ ((0 : Fin 4) : Nat) = 0 := by decide +kernel
theorem q144_16 : qD 144 16 (.invokevirtual 217) 3 19 ∧ qI 144 217 106 756 := by decide +kernel
theorem q144_19 : qD 144 19 (.iload_n 1) 1 20 ∧ ((1 : Fin 4) : Nat) = 1 := by decide +kernel
theorem q144_20 : qD 144 20 (.aload_n 0) 1 21 ∧ ((0 : Fin 4) : Nat) = 0 := by decide +kernel
theorem q144_21 : qG 144 21 19 24 10 1 325 2 := by decide +kernel
theorem q144_24 : qG 144 24 148 27 3 3 179 0 := by decide +kernel
theorem q144_27 : qD 144 27 (.invokevirtual 282) 3 30 ∧ qI 144 282 58 804 := by decide +kernel
theorem q144_30 : qD 144 30 (.aload_n 0) 1 31 ∧ ((0 : Fin 4) : Nat) = 0 := by decide +kernel
theorem q144_31 : qD 144 31 (.aload_n 0) 1 32 ∧ ((0 : Fin 4) : Nat) = 0 := by decide +kernel
theorem q144_32 : qG 144 32 19 35 10 1 325 2 := by decide +kernel
theorem q144_35 : qD 144 35 (.invokevirtual 290) 3 38 ∧ qI 144 290 19 816 := by decide +kernel
theorem q144_38 : qD 144 38 (.invokevirtual 353) 3 41 ∧ qI 144 353 145 1036 := by decide +kernel
theorem q144_41 : qD 144 41 (.ireturn) 1 42 ∧ mR 144 = some .int := by decide +kernel
theorem q145_0 : qD 145 0 (.bipush 7) 2 2 ∧ (Int8.ofInt (7)).toInt32 = (7 : Int32) := by decide +kernel
theorem q145_2 : qD 145 2 (.aload_n 0) 1 3 ∧ ((0 : Fin 4) : Nat) = 0 := by decide +kernel
theorem q145_3 : qG 145 3 51 6 10 10 334 2 := by decide +kernel
theorem q145_6 : qG 145 6 182 9 7 0 240 2 := by decide +kernel
theorem q145_9 : qD 145 9 (.iconst 0) 1 10 ∧ Int32.ofInt (0) = (0 : Int32) := by decide +kernel
theorem q145_10 : qD 145 10 (.aload_n 0) 1 11 ∧ ((0 : Fin 4) : Nat) = 0 := by decide +kernel
theorem q145_11 : qG 145 11 19 14 10 1 325 2 := by decide +kernel
theorem q145_14 : qD 145 14 (.invokevirtual 230) 3 17 ∧ qI 145 230 16 760 := by decide +kernel
theorem q145_17 : qD 145 17 (.iadd) 1 18 := by decide +kernel
theorem q145_18 : qD 145 18 (.iaload) 1 19 := by decide +kernel
theorem q145_19 : qD 145 19 (.iadd) 1 20 := by decide +kernel
theorem q145_20 : qD 145 20 (.istore_n 2) 1 21 ∧ ((2 : Fin 4) : Nat) = 2 ∧ 2 < mL 145 := by decide +kernel
theorem q145_21 : qD 145 21 (.aload_n 0) 1 22 ∧ ((0 : Fin 4) : Nat) = 0 := by decide +kernel
theorem q145_22 : qG 145 22 51 25 10 10 334 2 := by decide +kernel
theorem q145_25 : qG 145 25 182 28 7 0 240 2 := by decide +kernel
theorem q145_28 : qD 145 28 (.iload_n 2) 1 29 ∧ ((2 : Fin 4) : Nat) = 2 := by decide +kernel
theorem q145_29 : qD 145 29 (.iaload) 1 30 := by decide +kernel
theorem q145_30 : qD 145 30 (.istore_n 3) 1 31 ∧ ((3 : Fin 4) : Nat) = 3 ∧ 3 < mL 145 := by decide +kernel
theorem q145_31 : qD 145 31 (.aload_n 0) 1 32 ∧ ((0 : Fin 4) : Nat) = 0 := by decide +kernel
theorem q145_32 : qG 145 32 77 35 10 16 340 2 := by decide +kernel
theorem q145_35 : qD 145 35 (.aload_n 0) 1 36 ∧ ((0 : Fin 4) : Nat) = 0 := by decide +kernel
theorem q145_36 : qG 145 36 19 39 10 1 325 2 := by decide +kernel
theorem q145_39 : qD 145 39 (.aload_n 0) 1 40 ∧ ((0 : Fin 4) : Nat) = 0 := by decide +kernel
theorem q145_40 : qG 145 40 51 43 10 10 334 2 := by decide +kernel
theorem q145_43 : qD 145 43 (.aload_n 0) 1 44 ∧ ((0 : Fin 4) : Nat) = 0 := by decide +kernel
theorem q145_44 : qD 145 44 (.invokevirtual 286) 3 47 ∧ qI 145 286 108 812 := by decide +kernel
theorem q145_47 : qD 145 47 (.iload_n 1) 1 48 ∧ ((1 : Fin 4) : Nat) = 1 := by decide +kernel
theorem q145_48 : qD 145 48 (.iconst 1) 1 49 ∧ Int32.ofInt (1) = (1 : Int32) := by decide +kernel
theorem q145_49 : qD 145 49 (.invokevirtual 293) 3 52 ∧ qI 145 293 31 820 := by decide +kernel
theorem q145_52 : qD 145 52 (.pop) 1 53 := by decide +kernel
theorem q145_53 : qD 145 53 (.aload_n 0) 1 54 ∧ ((0 : Fin 4) : Nat) = 0 := by decide +kernel
theorem q145_54 : qG 145 54 51 57 10 10 334 2 := by decide +kernel
theorem q145_57 : qG 145 57 182 60 7 0 240 2 := by decide +kernel
theorem q145_60 : qD 145 60 (.iload_n 2) 1 61 ∧ ((2 : Fin 4) : Nat) = 2 := by decide +kernel
theorem q145_61 : qD 145 61 (.iaload) 1 62 := by decide +kernel
theorem q145_62 : qD 145 62 (.iload_n 3) 1 63 ∧ ((3 : Fin 4) : Nat) = 3 := by decide +kernel
theorem q145_63 : qD 145 63 (.isub) 1 64 := by decide +kernel
theorem q145_64 : qD 145 64 (.ireturn) 1 65 ∧ mR 145 = some .int := by decide +kernel
theorem q146_0 : qD 146 0 (.aload_n 0) 1 1 ∧ ((0 : Fin 4) : Nat) = 0 := by decide +kernel
theorem q146_1 : qD 146 1 (.iload_n 1) 1 2 ∧ ((1 : Fin 4) : Nat) = 1 := by decide +kernel
theorem q146_2 : qD 146 2 (.invokevirtual 159) 3 5 ∧ qI 146 159 103 778 := by decide +kernel
theorem q146_5 : qJ 146 5 (.ifCond .eq 36) 8 (36) 41 := by decide +kernel
theorem q146_8 : qD 146 8 (.aload_n 0) 1 9 ∧ ((0 : Fin 4) : Nat) = 0 := by decide +kernel
theorem q146_9 : qD 146 9 (.iload_n 2) 1 10 ∧ ((2 : Fin 4) : Nat) = 2 := by decide +kernel
theorem q146_10 : qD 146 10 (.invokevirtual 159) 3 13 ∧ qI 146 159 103 778 := by decide +kernel
theorem q146_13 : qJ 146 13 (.ifCond .eq 28) 16 (28) 41 := by decide +kernel
theorem q146_16 : qD 146 16 (.iload_n 1) 1 17 ∧ ((1 : Fin 4) : Nat) = 1 := by decide +kernel
theorem q146_17 : qD 146 17 (.iload_n 2) 1 18 ∧ ((2 : Fin 4) : Nat) = 2 := by decide +kernel
theorem q146_18 : qJ 146 18 (.if_icmp .eq 23) 21 (23) 41 := by decide +kernel
theorem q146_21 : qD 146 21 (.iload_n 1) 1 22 ∧ ((1 : Fin 4) : Nat) = 1 := by decide +kernel
theorem q146_22 : qD 146 22 (.aload_n 0) 1 23 ∧ ((0 : Fin 4) : Nat) = 0 := by decide +kernel
theorem q146_23 : qD 146 23 (.invokevirtual 217) 3 26 ∧ qI 146 217 106 756 := by decide +kernel
theorem q146_26 : qJ 146 26 (.if_icmp .eq 15) 29 (15) 41 := by decide +kernel
theorem q146_29 : qD 146 29 (.iload_n 2) 1 30 ∧ ((2 : Fin 4) : Nat) = 2 := by decide +kernel
theorem q146_30 : qD 146 30 (.aload_n 0) 1 31 ∧ ((0 : Fin 4) : Nat) = 0 := by decide +kernel
theorem q146_31 : qD 146 31 (.invokevirtual 217) 3 34 ∧ qI 146 217 106 756 := by decide +kernel
theorem q146_34 : qJ 146 34 (.if_icmp .eq 7) 37 (7) 41 := by decide +kernel
theorem q146_37 : qD 146 37 (.iconst 1) 1 38 ∧ Int32.ofInt (1) = (1 : Int32) := by decide +kernel
theorem q146_38 : qJ 146 38 (.goto 4) 41 (4) 42 := by decide +kernel
theorem q146_41 : qD 146 41 (.iconst 0) 1 42 ∧ Int32.ofInt (0) = (0 : Int32) := by decide +kernel
theorem q146_42 : qD 146 42 (.ireturn) 1 43 ∧ mR 146 = some .boolean := by decide +kernel
theorem q147_0 : qD 147 0 (.aload_n 0) 1 1 ∧ ((0 : Fin 4) : Nat) = 0 := by decide +kernel
theorem q147_1 : qG 147 1 51 4 10 10 334 2 := by decide +kernel
theorem q147_4 : qD 147 4 (.aload_n 0) 1 5 ∧ ((0 : Fin 4) : Nat) = 0 := by decide +kernel
theorem q147_5 : qG 147 5 47 8 10 9 333 2 := by decide +kernel
theorem q147_8 : qD 147 8 (.invokevirtual 262) 3 11 ∧ qI 147 262 55 957 := by decide +kernel
theorem q147_11 : qD 147 11 (.aload_n 0) 1 12 ∧ ((0 : Fin 4) : Nat) = 0 := by decide +kernel
theorem q147_12 : qG 147 12 77 15 10 16 340 2 := by decide +kernel
theorem q147_15 : qD 147 15 (.aload_n 0) 1 16 ∧ ((0 : Fin 4) : Nat) = 0 := by decide +kernel
theorem q147_16 : qG 147 16 19 19 10 1 325 2 := by decide +kernel
theorem q147_19 : qD 147 19 (.aload_n 0) 1 20 ∧ ((0 : Fin 4) : Nat) = 0 := by decide +kernel
theorem q147_20 : qG 147 20 51 23 10 10 334 2 := by decide +kernel
theorem q147_23 : qD 147 23 (.aload_n 0) 1 24 ∧ ((0 : Fin 4) : Nat) = 0 := by decide +kernel
theorem q147_24 : qD 147 24 (.invokevirtual 286) 3 27 ∧ qI 147 286 108 812 := by decide +kernel
theorem q147_27 : qD 147 27 (.aload_n 0) 1 28 ∧ ((0 : Fin 4) : Nat) = 0 := by decide +kernel
theorem q147_28 : qG 147 28 19 31 10 1 325 2 := by decide +kernel
theorem q147_31 : qD 147 31 (.invokevirtual 290) 3 34 ∧ qI 147 290 19 816 := by decide +kernel
theorem q147_34 : qD 147 34 (.iconst 1) 1 35 ∧ Int32.ofInt (1) = (1 : Int32) := by decide +kernel
theorem q147_35 : qD 147 35 (.invokevirtual 293) 3 38 ∧ qI 147 293 31 820 := by decide +kernel
theorem q147_38 : qD 147 38 (.pop) 1 39 := by decide +kernel
theorem q147_39 : qD 147 39 (.return_) 1 40 ∧ mR 147 = none := by decide +kernel
theorem q148_0 : qD 148 0 (.iload_n 3) 1 1 ∧ ((3 : Fin 4) : Nat) = 3 := by decide +kernel
theorem q148_1 : qJ 148 1 (.ifCond .ne 5) 4 (5) 6 := by decide +kernel
theorem q148_4 : qD 148 4 (.iconst 0) 1 5 ∧ Int32.ofInt (0) = (0 : Int32) := by decide +kernel
theorem q148_5 : qD 148 5 (.ireturn) 1 6 ∧ mR 148 = some .int := by decide +kernel
theorem q148_6 : qD 148 6 (.aload_n 0) 1 7 ∧ ((0 : Fin 4) : Nat) = 0 := by decide +kernel
theorem q148_7 : qG 148 7 77 10 10 16 340 2 := by decide +kernel
theorem q148_10 : qG 148 10 367 13 4 1 280 2 := by decide +kernel
theorem q148_13 : qD 148 13 (.iload_n 1) 1 14 ∧ ((1 : Fin 4) : Nat) = 1 := by decide +kernel
theorem q148_14 : qD 148 14 (.iaload) 1 15 := by decide +kernel
theorem q148_15 : qD 148 15 (.invokestatic 338) 3 18 ∧ qI 148 338 295 1017 := by decide +kernel
theorem q148_18 : qD 148 18 (.istore 5) 2 20 ∧ 5 < mL 148 := by decide +kernel
theorem q148_20 : qD 148 20 (.aload_n 0) 1 21 ∧ ((0 : Fin 4) : Nat) = 0 := by decide +kernel
theorem q148_21 : qG 148 21 77 24 10 16 340 2 := by decide +kernel
theorem q148_24 : qG 148 24 367 27 4 1 280 2 := by decide +kernel
theorem q148_27 : qD 148 27 (.iload_n 1) 1 28 ∧ ((1 : Fin 4) : Nat) = 1 := by decide +kernel
theorem q148_28 : qD 148 28 (.iaload) 1 29 := by decide +kernel
theorem q148_29 : qD 148 29 (.aload_n 0) 1 30 ∧ ((0 : Fin 4) : Nat) = 0 := by decide +kernel
theorem q148_30 : qG 148 30 77 33 10 16 340 2 := by decide +kernel
theorem q148_33 : qG 148 33 367 36 4 1 280 2 := by decide +kernel
theorem q148_36 : qD 148 36 (.iload_n 2) 1 37 ∧ ((2 : Fin 4) : Nat) = 2 := by decide +kernel
theorem q148_37 : qD 148 37 (.iaload) 1 38 := by decide +kernel
theorem q148_38 : qD 148 38 (.iand) 1 39 := by decide +kernel
theorem q148_39 : qD 148 39 (.invokestatic 338) 3 42 ∧ qI 148 338 295 1017 := by decide +kernel
theorem q148_42 : qD 148 42 (.istore 6) 2 44 ∧ 6 < mL 148 := by decide +kernel
theorem q148_44 : qD 148 44 (.iload 5) 2 46 := by decide +kernel
theorem q148_46 : qD 148 46 (.iconst 3) 1 47 ∧ Int32.ofInt (3) = (3 : Int32) := by decide +kernel
theorem q148_47 : qD 148 47 (.aload_n 0) 1 48 ∧ ((0 : Fin 4) : Nat) = 0 := by decide +kernel
theorem q148_48 : qG 148 48 19 51 10 1 325 2 := by decide +kernel
theorem q148_51 : qD 148 51 (.invokevirtual 290) 3 54 ∧ qI 148 290 19 816 := by decide +kernel
theorem q148_54 : qD 148 54 (.isub) 1 55 := by decide +kernel
theorem q148_55 : qD 148 55 (.imul) 1 56 := by decide +kernel
theorem q148_56 : qD 148 56 (.iload 4) 2 58 := by decide +kernel
theorem q148_58 : qD 148 58 (.iconst 1) 1 59 ∧ Int32.ofInt (1) = (1 : Int32) := by decide +kernel
theorem q148_59 : qJ 148 59 (.if_icmp .ne 8) 62 (8) 67 := by decide +kernel
theorem q148_62 : qD 148 62 (.iload 6) 2 64 := by decide +kernel
theorem q148_64 : qJ 148 64 (.goto 4) 67 (4) 68 := by decide +kernel
theorem q148_67 : qD 148 67 (.iconst 0) 1 68 ∧ Int32.ofInt (0) = (0 : Int32) := by decide +kernel
theorem q148_68 : qD 148 68 (.isub) 1 69 := by decide +kernel
theorem q148_69 : qD 148 69 (.ireturn) 1 70 ∧ mR 148 = some .int := by decide +kernel
theorem q149_0 : qD 149 0 (.aload_n 0) 1 1 ∧ ((0 : Fin 4) : Nat) = 0 := by decide +kernel
theorem q149_1 : qD 149 1 (.invokevirtual 151) 3 4 ∧ qI 149 151 102 695 := by decide +kernel
theorem q149_4 : qJ 149 4 (.ifCond .eq 12) 7 (12) 16 := by decide +kernel
theorem q149_7 : qD 149 7 (.iload_n 1) 1 8 ∧ ((1 : Fin 4) : Nat) = 1 := by decide +kernel
theorem q149_8 : qJ 149 8 (.ifCond .lt 8) 11 (8) 16 := by decide +kernel
theorem q149_11 : qD 149 11 (.iload_n 1) 1 12 ∧ ((1 : Fin 4) : Nat) = 1 := by decide +kernel
theorem q149_12 : qD 149 12 (.iconst 1) 1 13 ∧ Int32.ofInt (1) = (1 : Int32) := by decide +kernel
theorem q149_13 : qJ 149 13 (.if_icmp .le 5) 16 (5) 18 := by decide +kernel
theorem q149_16 : qD 149 16 (.iconst (-1)) 1 17 ∧ Int32.ofInt (-1) = (-1 : Int32) := by decide +kernel
theorem q149_17 : qD 149 17 (.ireturn) 1 18 ∧ mR 149 = some .int := by decide +kernel
theorem q149_18 : qD 149 18 (.aload_n 0) 1 19 ∧ ((0 : Fin 4) : Nat) = 0 := by decide +kernel
theorem q149_19 : qG 149 19 91 22 10 18 342 2 := by decide +kernel
theorem q149_22 : qD 149 22 (.aload_n 0) 1 23 ∧ ((0 : Fin 4) : Nat) = 0 := by decide +kernel
theorem q149_23 : qG 149 23 19 26 10 1 325 2 := by decide +kernel
theorem q149_26 : qD 149 26 (.invokevirtual 370) 3 29 ∧ qI 149 370 6 1076 := by decide +kernel
theorem q149_29 : qD 149 29 (.iload_n 1) 1 30 ∧ ((1 : Fin 4) : Nat) = 1 := by decide +kernel
theorem q149_30 : qJ 149 30 (.ifCond .ne 13) 33 (13) 43 := by decide +kernel
theorem q149_33 : qD 149 33 (.aload_n 0) 1 34 ∧ ((0 : Fin 4) : Nat) = 0 := by decide +kernel
theorem q149_34 : qG 149 34 91 37 10 18 342 2 := by decide +kernel
theorem q149_37 : qG 149 37 373 40 1 1 315 0 := by decide +kernel
theorem q149_40 : qJ 149 40 (.goto 10) 43 (10) 50 := by decide +kernel
theorem q149_43 : qD 149 43 (.aload_n 0) 1 44 ∧ ((0 : Fin 4) : Nat) = 0 := by decide +kernel
theorem q149_44 : qG 149 44 91 47 10 18 342 2 := by decide +kernel
theorem q149_47 : qG 149 47 376 50 1 0 313 0 := by decide +kernel
theorem q149_50 : qD 149 50 (.ireturn) 1 51 ∧ mR 149 = some .int := by decide +kernel
theorem q150_0 : qD 150 0 (.aload_n 0) 1 1 ∧ ((0 : Fin 4) : Nat) = 0 := by decide +kernel
theorem q150_1 : qD 150 1 (.invokevirtual 151) 3 4 ∧ qI 150 151 102 695 := by decide +kernel
theorem q150_4 : qJ 150 4 (.ifCond .ne 5) 7 (5) 9 := by decide +kernel
theorem q150_7 : qD 150 7 (.iconst (-1)) 1 8 ∧ Int32.ofInt (-1) = (-1 : Int32) := by decide +kernel
theorem q150_8 : qD 150 8 (.ireturn) 1 9 ∧ mR 150 = some .int := by decide +kernel
theorem q150_9 : qD 150 9 (.iconst 0) 1 10 ∧ Int32.ofInt (0) = (0 : Int32) := by decide +kernel
theorem q150_10 : qD 150 10 (.istore_n 1) 1 11 ∧ ((1 : Fin 4) : Nat) = 1 ∧ 1 < mL 150 := by decide +kernel
theorem q150_11 : qD 150 11 (.iconst 0) 1 12 ∧ Int32.ofInt (0) = (0 : Int32) := by decide +kernel
theorem q150_12 : qD 150 12 (.istore_n 2) 1 13 ∧ ((2 : Fin 4) : Nat) = 2 ∧ 2 < mL 150 := by decide +kernel
theorem q150_13 : qD 150 13 (.iconst 0) 1 14 ∧ Int32.ofInt (0) = (0 : Int32) := by decide +kernel
theorem q150_14 : qD 150 14 (.istore_n 3) 1 15 ∧ ((3 : Fin 4) : Nat) = 3 ∧ 3 < mL 150 := by decide +kernel
theorem q150_15 : qD 150 15 (.iload_n 3) 1 16 ∧ ((3 : Fin 4) : Nat) = 3 := by decide +kernel
theorem q150_16 : qD 150 16 (.aload_n 0) 1 17 ∧ ((0 : Fin 4) : Nat) = 0 := by decide +kernel
theorem q150_17 : qG 150 17 19 20 10 1 325 2 := by decide +kernel
theorem q150_20 : qG 150 20 148 23 3 3 179 0 := by decide +kernel
theorem q150_23 : qJ 150 23 (.if_icmp .ge 100) 26 (100) 123 := by decide +kernel
theorem q150_26 : qD 150 26 (.iconst (-1)) 1 27 ∧ Int32.ofInt (-1) = (-1 : Int32) := by decide +kernel
theorem q150_27 : qD 150 27 (.istore 4) 2 29 ∧ 4 < mL 150 := by decide +kernel
theorem q150_29 : qD 150 29 (.iconst 0) 1 30 ∧ Int32.ofInt (0) = (0 : Int32) := by decide +kernel
theorem q150_30 : qD 150 30 (.istore 5) 2 32 ∧ 5 < mL 150 := by decide +kernel
theorem q150_32 : qD 150 32 (.iload 5) 2 34 := by decide +kernel
theorem q150_34 : qD 150 34 (.aload_n 0) 1 35 ∧ ((0 : Fin 4) : Nat) = 0 := by decide +kernel
theorem q150_35 : qG 150 35 19 38 10 1 325 2 := by decide +kernel
theorem q150_38 : qG 150 38 148 41 3 3 179 0 := by decide +kernel
theorem q150_41 : qJ 150 41 (.if_icmp .ge 61) 44 (61) 102 := by decide +kernel
theorem q150_44 : qD 150 44 (.iload_n 2) 1 45 ∧ ((2 : Fin 4) : Nat) = 2 := by decide +kernel
theorem q150_45 : qD 150 45 (.iload 5) 2 47 := by decide +kernel
theorem q150_47 : qD 150 47 (.ishr) 1 48 := by decide +kernel
theorem q150_48 : qD 150 48 (.iconst 1) 1 49 ∧ Int32.ofInt (1) = (1 : Int32) := by decide +kernel
theorem q150_49 : qD 150 49 (.iand) 1 50 := by decide +kernel
theorem q150_50 : qJ 150 50 (.ifCond .ne 7) 53 (7) 57 := by decide +kernel
theorem q150_53 : qD 150 53 (.iconst 1) 1 54 ∧ Int32.ofInt (1) = (1 : Int32) := by decide +kernel
theorem q150_54 : qJ 150 54 (.goto 4) 57 (4) 58 := by decide +kernel
theorem q150_57 : qD 150 57 (.iconst 0) 1 58 ∧ Int32.ofInt (0) = (0 : Int32) := by decide +kernel
theorem q150_58 : qD 150 58 (.istore 6) 2 60 ∧ 6 < mL 150 := by decide +kernel
theorem q150_60 : qD 150 60 (.iload 6) 2 62 := by decide +kernel
theorem q150_62 : qJ 150 62 (.ifCond .eq 34) 65 (34) 96 := by decide +kernel
theorem q150_65 : qD 150 65 (.iload 4) 2 67 := by decide +kernel
theorem q150_67 : qD 150 67 (.iconst (-1)) 1 68 ∧ Int32.ofInt (-1) = (-1 : Int32) := by decide +kernel
theorem q150_68 : qJ 150 68 (.if_icmp .eq 24) 71 (24) 92 := by decide +kernel
theorem q150_71 : qD 150 71 (.aload_n 0) 1 72 ∧ ((0 : Fin 4) : Nat) = 0 := by decide +kernel
theorem q150_72 : qG 150 72 19 75 10 1 325 2 := by decide +kernel
theorem q150_75 : qD 150 75 (.iload 5) 2 77 := by decide +kernel
theorem q150_77 : qD 150 77 (.invokevirtual 173) 3 80 ∧ qI 150 173 21 944 := by decide +kernel
theorem q150_80 : qD 150 80 (.aload_n 0) 1 81 ∧ ((0 : Fin 4) : Nat) = 0 := by decide +kernel
theorem q150_81 : qG 150 81 19 84 10 1 325 2 := by decide +kernel
theorem q150_84 : qD 150 84 (.iload 4) 2 86 := by decide +kernel
theorem q150_86 : qD 150 86 (.invokevirtual 173) 3 89 ∧ qI 150 173 21 944 := by decide +kernel
theorem q150_89 : qJ 150 89 (.if_icmp .le 7) 92 (7) 96 := by decide +kernel
theorem q150_92 : qD 150 92 (.iload 5) 2 94 := by decide +kernel
theorem q150_94 : qD 150 94 (.istore 4) 2 96 ∧ 4 < mL 150 := by decide +kernel
theorem q150_96 : qD 150 96 (.iinc 5 1) 3 99 ∧ 5 < mL 150 ∧ Int32.ofInt (1) = (1 : Int32) := by decide +kernel
theorem q150_99 : qJ 150 99 (.goto (-67)) 102 (-67) 32 := by decide +kernel
theorem q150_102 : qD 150 102 (.bipush 10) 2 104 ∧ (Int8.ofInt (10)).toInt32 = (10 : Int32) := by decide +kernel
theorem q150_104 : qD 150 104 (.iload_n 1) 1 105 ∧ ((1 : Fin 4) : Nat) = 1 := by decide +kernel
theorem q150_105 : qD 150 105 (.imul) 1 106 := by decide +kernel
theorem q150_106 : qD 150 106 (.iload 4) 2 108 := by decide +kernel
theorem q150_108 : qD 150 108 (.iadd) 1 109 := by decide +kernel
theorem q150_109 : qD 150 109 (.istore_n 1) 1 110 ∧ ((1 : Fin 4) : Nat) = 1 ∧ 1 < mL 150 := by decide +kernel
theorem q150_110 : qD 150 110 (.iload_n 2) 1 111 ∧ ((2 : Fin 4) : Nat) = 2 := by decide +kernel
theorem q150_111 : qD 150 111 (.iconst 1) 1 112 ∧ Int32.ofInt (1) = (1 : Int32) := by decide +kernel
theorem q150_112 : qD 150 112 (.iload 4) 2 114 := by decide +kernel
theorem q150_114 : qD 150 114 (.ishl) 1 115 := by decide +kernel
theorem q150_115 : qD 150 115 (.ior) 1 116 := by decide +kernel
theorem q150_116 : qD 150 116 (.istore_n 2) 1 117 ∧ ((2 : Fin 4) : Nat) = 2 ∧ 2 < mL 150 := by decide +kernel
theorem q150_117 : qD 150 117 (.iinc 3 1) 3 120 ∧ 3 < mL 150 ∧ Int32.ofInt (1) = (1 : Int32) := by decide +kernel
theorem q150_120 : qJ 150 120 (.goto (-105)) 123 (-105) 15 := by decide +kernel
theorem q150_123 : qD 150 123 (.iload_n 1) 1 124 ∧ ((1 : Fin 4) : Nat) = 1 := by decide +kernel
theorem q150_124 : qD 150 124 (.ireturn) 1 125 ∧ mR 150 = some .int := by decide +kernel
theorem q151_0 : qD 151 0 (.iconst (-1)) 1 1 ∧ Int32.ofInt (-1) = (-1 : Int32) := by decide +kernel
theorem q151_1 : qD 151 1 (.istore_n 1) 1 2 ∧ ((1 : Fin 4) : Nat) = 1 ∧ 1 < mL 151 := by decide +kernel
theorem q151_2 : qD 151 2 (.iconst 0) 1 3 ∧ Int32.ofInt (0) = (0 : Int32) := by decide +kernel
theorem q151_3 : qD 151 3 (.istore_n 2) 1 4 ∧ ((2 : Fin 4) : Nat) = 2 ∧ 2 < mL 151 := by decide +kernel
theorem q151_4 : qD 151 4 (.iload_n 2) 1 5 ∧ ((2 : Fin 4) : Nat) = 2 := by decide +kernel
theorem q151_5 : qD 151 5 (.aload_n 0) 1 6 ∧ ((0 : Fin 4) : Nat) = 0 := by decide +kernel
theorem q151_6 : qG 151 6 19 9 10 1 325 2 := by decide +kernel
theorem q151_9 : qG 151 9 214 12 3 4 183 0 := by decide +kernel
theorem q151_12 : qJ 151 12 (.if_icmp .ge 35) 15 (35) 47 := by decide +kernel
theorem q151_15 : qD 151 15 (.iload_n 1) 1 16 ∧ ((1 : Fin 4) : Nat) = 1 := by decide +kernel
theorem q151_16 : qD 151 16 (.iconst (-1)) 1 17 ∧ Int32.ofInt (-1) = (-1 : Int32) := by decide +kernel
theorem q151_17 : qJ 151 17 (.if_icmp .eq 22) 20 (22) 39 := by decide +kernel
theorem q151_20 : qD 151 20 (.aload_n 0) 1 21 ∧ ((0 : Fin 4) : Nat) = 0 := by decide +kernel
theorem q151_21 : qG 151 21 19 24 10 1 325 2 := by decide +kernel
theorem q151_24 : qD 151 24 (.iload_n 2) 1 25 ∧ ((2 : Fin 4) : Nat) = 2 := by decide +kernel
theorem q151_25 : qD 151 25 (.invokevirtual 196) 3 28 ∧ qI 151 196 25 719 := by decide +kernel
theorem q151_28 : qD 151 28 (.aload_n 0) 1 29 ∧ ((0 : Fin 4) : Nat) = 0 := by decide +kernel
theorem q151_29 : qG 151 29 19 32 10 1 325 2 := by decide +kernel
theorem q151_32 : qD 151 32 (.iload_n 1) 1 33 ∧ ((1 : Fin 4) : Nat) = 1 := by decide +kernel
theorem q151_33 : qD 151 33 (.invokevirtual 196) 3 36 ∧ qI 151 196 25 719 := by decide +kernel
theorem q151_36 : qJ 151 36 (.if_icmp .ge 5) 39 (5) 41 := by decide +kernel
theorem q151_39 : qD 151 39 (.iload_n 2) 1 40 ∧ ((2 : Fin 4) : Nat) = 2 := by decide +kernel
theorem q151_40 : qD 151 40 (.istore_n 1) 1 41 ∧ ((1 : Fin 4) : Nat) = 1 ∧ 1 < mL 151 := by decide +kernel
theorem q151_41 : qD 151 41 (.iinc 2 1) 3 44 ∧ 2 < mL 151 ∧ Int32.ofInt (1) = (1 : Int32) := by decide +kernel
theorem q151_44 : qJ 151 44 (.goto (-40)) 47 (-40) 4 := by decide +kernel
theorem q151_47 : qD 151 47 (.iload_n 1) 1 48 ∧ ((1 : Fin 4) : Nat) = 1 := by decide +kernel
theorem q151_48 : qD 151 48 (.ireturn) 1 49 ∧ mR 151 = some .int := by decide +kernel
theorem q152_0 : qD 152 0 (.aload_n 0) 1 1 ∧ ((0 : Fin 4) : Nat) = 0 := by decide +kernel
theorem q152_1 : qD 152 1 (.invokevirtual 151) 3 4 ∧ qI 152 151 102 695 := by decide +kernel
theorem q152_4 : qJ 152 4 (.ifCond .eq 20) 7 (20) 24 := by decide +kernel
theorem q152_7 : qD 152 7 (.aload_n 0) 1 8 ∧ ((0 : Fin 4) : Nat) = 0 := by decide +kernel
theorem q152_8 : qG 152 8 47 11 10 9 333 2 := by decide +kernel
theorem q152_11 : qD 152 11 (.aload_n 0) 1 12 ∧ ((0 : Fin 4) : Nat) = 0 := by decide +kernel
theorem q152_12 : qG 152 12 19 15 10 1 325 2 := by decide +kernel
theorem q152_15 : qG 152 15 148 18 3 3 179 0 := by decide +kernel
theorem q152_18 : qD 152 18 (.invokevirtual 246) 3 21 ∧ qI 152 246 59 786 := by decide +kernel
theorem q152_21 : qJ 152 21 (.goto 4) 24 (4) 25 := by decide +kernel
theorem q152_24 : qD 152 24 (.iconst (-1)) 1 25 ∧ Int32.ofInt (-1) = (-1 : Int32) := by decide +kernel
theorem q152_25 : qD 152 25 (.ireturn) 1 26 ∧ mR 152 = some .int := by decide +kernel
theorem q153_0 : qD 153 0 (.iconst (-1)) 1 1 ∧ Int32.ofInt (-1) = (-1 : Int32) := by decide +kernel
theorem q153_1 : qD 153 1 (.istore_n 1) 1 2 ∧ ((1 : Fin 4) : Nat) = 1 ∧ 1 < mL 153 := by decide +kernel
theorem q153_2 : qD 153 2 (.iconst (-1)) 1 3 ∧ Int32.ofInt (-1) = (-1 : Int32) := by decide +kernel
theorem q153_3 : qD 153 3 (.istore_n 2) 1 4 ∧ ((2 : Fin 4) : Nat) = 2 ∧ 2 < mL 153 := by decide +kernel
theorem q153_4 : qD 153 4 (.iconst 0) 1 5 ∧ Int32.ofInt (0) = (0 : Int32) := by decide +kernel
theorem q153_5 : qD 153 5 (.istore_n 3) 1 6 ∧ ((3 : Fin 4) : Nat) = 3 ∧ 3 < mL 153 := by decide +kernel
theorem q153_6 : qD 153 6 (.iload_n 3) 1 7 ∧ ((3 : Fin 4) : Nat) = 3 := by decide +kernel
theorem q153_7 : qD 153 7 (.aload_n 0) 1 8 ∧ ((0 : Fin 4) : Nat) = 0 := by decide +kernel
theorem q153_8 : qG 153 8 19 11 10 1 325 2 := by decide +kernel
theorem q153_11 : qG 153 11 148 14 3 3 179 0 := by decide +kernel
theorem q153_14 : qJ 153 14 (.if_icmp .ge 37) 17 (37) 51 := by decide +kernel
theorem q153_17 : qD 153 17 (.aload_n 0) 1 18 ∧ ((0 : Fin 4) : Nat) = 0 := by decide +kernel
theorem q153_18 : qG 153 18 47 21 10 9 333 2 := by decide +kernel
theorem q153_21 : qG 153 21 182 24 7 0 240 2 := by decide +kernel
theorem q153_24 : qD 153 24 (.bipush 21) 2 26 ∧ (Int8.ofInt (21)).toInt32 = (21 : Int32) := by decide +kernel
theorem q153_26 : qD 153 26 (.iload_n 3) 1 27 ∧ ((3 : Fin 4) : Nat) = 3 := by decide +kernel
theorem q153_27 : qD 153 27 (.iadd) 1 28 := by decide +kernel
theorem q153_28 : qD 153 28 (.iaload) 1 29 := by decide +kernel
theorem q153_29 : qD 153 29 (.invokestatic 338) 3 32 ∧ qI 153 338 295 1017 := by decide +kernel
theorem q153_32 : qD 153 32 (.istore 4) 2 34 ∧ 4 < mL 153 := by decide +kernel
theorem q153_34 : qD 153 34 (.iload 4) 2 36 := by decide +kernel
theorem q153_36 : qD 153 36 (.iload_n 2) 1 37 ∧ ((2 : Fin 4) : Nat) = 2 := by decide +kernel
theorem q153_37 : qJ 153 37 (.if_icmp .le 8) 40 (8) 45 := by decide +kernel
theorem q153_40 : qD 153 40 (.iload_n 3) 1 41 ∧ ((3 : Fin 4) : Nat) = 3 := by decide +kernel
theorem q153_41 : qD 153 41 (.istore_n 1) 1 42 ∧ ((1 : Fin 4) : Nat) = 1 ∧ 1 < mL 153 := by decide +kernel
theorem q153_42 : qD 153 42 (.iload 4) 2 44 := by decide +kernel
theorem q153_44 : qD 153 44 (.istore_n 2) 1 45 ∧ ((2 : Fin 4) : Nat) = 2 ∧ 2 < mL 153 := by decide +kernel
theorem q153_45 : qD 153 45 (.iinc 3 1) 3 48 ∧ 3 < mL 153 ∧ Int32.ofInt (1) = (1 : Int32) := by decide +kernel
theorem q153_48 : qJ 153 48 (.goto (-42)) 51 (-42) 6 := by decide +kernel
theorem q153_51 : qD 153 51 (.iload_n 1) 1 52 ∧ ((1 : Fin 4) : Nat) = 1 := by decide +kernel
theorem q153_52 : qD 153 52 (.ireturn) 1 53 ∧ mR 153 = some .int := by decide +kernel
theorem q154_0 : qD 154 0 (.aload_n 0) 1 1 ∧ ((0 : Fin 4) : Nat) = 0 := by decide +kernel
theorem q154_1 : qD 154 1 (.iload_n 1) 1 2 ∧ ((1 : Fin 4) : Nat) = 1 := by decide +kernel
theorem q154_2 : qD 154 2 (.invokevirtual 159) 3 5 ∧ qI 154 159 103 778 := by decide +kernel
theorem q154_5 : qJ 154 5 (.ifCond .eq 23) 8 (23) 28 := by decide +kernel
theorem q154_8 : qD 154 8 (.aload_n 0) 1 9 ∧ ((0 : Fin 4) : Nat) = 0 := by decide +kernel
theorem q154_9 : qD 154 9 (.iload_n 2) 1 10 ∧ ((2 : Fin 4) : Nat) = 2 := by decide +kernel
theorem q154_10 : qD 154 10 (.invokevirtual 193) 3 13 ∧ qI 154 193 105 715 := by decide +kernel
theorem q154_13 : qJ 154 13 (.ifCond .eq 15) 16 (15) 28 := by decide +kernel
theorem q154_16 : qD 154 16 (.aload_n 0) 1 17 ∧ ((0 : Fin 4) : Nat) = 0 := by decide +kernel
theorem q154_17 : qG 154 17 84 20 10 17 341 2 := by decide +kernel
theorem q154_20 : qG 154 20 223 23 9 2 298 0 := by decide +kernel
theorem q154_23 : qD 154 23 (.bipush 16) 2 25 ∧ (Int8.ofInt (16)).toInt32 = (16 : Int32) := by decide +kernel
theorem q154_25 : qJ 154 25 (.if_icmp .lt 5) 28 (5) 30 := by decide +kernel
theorem q154_28 : qD 154 28 (.iconst (-1)) 1 29 ∧ Int32.ofInt (-1) = (-1 : Int32) := by decide +kernel
theorem q154_29 : qD 154 29 (.ireturn) 1 30 ∧ mR 154 = some .int := by decide +kernel
theorem q154_30 : qD 154 30 (.aload_n 0) 1 31 ∧ ((0 : Fin 4) : Nat) = 0 := by decide +kernel
theorem q154_31 : qG 154 31 84 34 10 17 341 2 := by decide +kernel
theorem q154_34 : qD 154 34 (.iload_n 1) 1 35 ∧ ((1 : Fin 4) : Nat) = 1 := by decide +kernel
theorem q154_35 : qD 154 35 (.iload_n 2) 1 36 ∧ ((2 : Fin 4) : Nat) = 2 := by decide +kernel
theorem q154_36 : qD 154 36 (.iload_n 3) 1 37 ∧ ((3 : Fin 4) : Nat) = 3 := by decide +kernel
theorem q154_37 : qD 154 37 (.invokevirtual 379) 3 40 ∧ qI 154 379 82 1106 := by decide +kernel
theorem q154_40 : qD 154 40 (.aload_n 0) 1 41 ∧ ((0 : Fin 4) : Nat) = 0 := by decide +kernel
theorem q154_41 : qG 154 41 84 44 10 17 341 2 := by decide +kernel
theorem q154_44 : qG 154 44 223 47 9 2 298 0 := by decide +kernel
theorem q154_47 : qD 154 47 (.ireturn) 1 48 ∧ mR 154 = some .int := by decide +kernel
theorem q155_0 : qD 155 0 (.aload_n 0) 1 1 ∧ ((0 : Fin 4) : Nat) = 0 := by decide +kernel
theorem q155_1 : qD 155 1 (.invokevirtual 151) 3 4 ∧ qI 155 151 102 695 := by decide +kernel
theorem q155_4 : qJ 155 4 (.ifCond .eq 10) 7 (10) 14 := by decide +kernel
theorem q155_7 : qD 155 7 (.aload_n 0) 1 8 ∧ ((0 : Fin 4) : Nat) = 0 := by decide +kernel
theorem q155_8 : qD 155 8 (.invokevirtual 383) 3 11 ∧ qI 155 383 164 1114 := by decide +kernel
theorem q155_11 : qJ 155 11 (.goto 4) 14 (4) 15 := by decide +kernel
theorem q155_14 : qD 155 14 (.iconst (-1)) 1 15 ∧ Int32.ofInt (-1) = (-1 : Int32) := by decide +kernel
theorem q155_15 : qD 155 15 (.ireturn) 1 16 ∧ mR 155 = some .int := by decide +kernel
theorem q156_0 : qD 156 0 (.aload_n 0) 1 1 ∧ ((0 : Fin 4) : Nat) = 0 := by decide +kernel
theorem q156_1 : qD 156 1 (.iload_n 1) 1 2 ∧ ((1 : Fin 4) : Nat) = 1 := by decide +kernel
theorem q156_2 : qD 156 2 (.invokevirtual 386) 3 5 ∧ qI 156 386 161 1138 := by decide +kernel
theorem q156_5 : qJ 156 5 (.ifCond .eq 8) 8 (8) 13 := by decide +kernel
theorem q156_8 : qD 156 8 (.iload_n 2) 1 9 ∧ ((2 : Fin 4) : Nat) = 2 := by decide +kernel
theorem q156_9 : qD 156 9 (.iconst (-1)) 1 10 ∧ Int32.ofInt (-1) = (-1 : Int32) := by decide +kernel
theorem q156_10 : qJ 156 10 (.if_icmp .ge 5) 13 (5) 15 := by decide +kernel
theorem q156_13 : qD 156 13 (.iconst (-1)) 1 14 ∧ Int32.ofInt (-1) = (-1 : Int32) := by decide +kernel
theorem q156_14 : qD 156 14 (.ireturn) 1 15 ∧ mR 156 = some .int := by decide +kernel
theorem q156_15 : qD 156 15 (.iconst 0) 1 16 ∧ Int32.ofInt (0) = (0 : Int32) := by decide +kernel
theorem q156_16 : qD 156 16 (.istore_n 3) 1 17 ∧ ((3 : Fin 4) : Nat) = 3 ∧ 3 < mL 156 := by decide +kernel
theorem q156_17 : qD 156 17 (.iconst 0) 1 18 ∧ Int32.ofInt (0) = (0 : Int32) := by decide +kernel
theorem q156_18 : qD 156 18 (.istore 4) 2 20 ∧ 4 < mL 156 := by decide +kernel
theorem q156_20 : qD 156 20 (.iload 4) 2 22 := by decide +kernel
theorem q156_22 : qD 156 22 (.aload_n 0) 1 23 ∧ ((0 : Fin 4) : Nat) = 0 := by decide +kernel
theorem q156_23 : qD 156 23 (.invokevirtual 389) 3 26 ∧ qI 156 389 162 1118 := by decide +kernel
theorem q156_26 : qJ 156 26 (.if_icmp .ge 30) 29 (30) 56 := by decide +kernel
theorem q156_29 : qD 156 29 (.aload_n 0) 1 30 ∧ ((0 : Fin 4) : Nat) = 0 := by decide +kernel
theorem q156_30 : qD 156 30 (.iload 4) 2 32 := by decide +kernel
theorem q156_32 : qD 156 32 (.invokevirtual 392) 3 35 ∧ qI 156 392 163 1122 := by decide +kernel
theorem q156_35 : qD 156 35 (.iload_n 1) 1 36 ∧ ((1 : Fin 4) : Nat) = 1 := by decide +kernel
theorem q156_36 : qJ 156 36 (.if_icmp .gt 14) 39 (14) 50 := by decide +kernel
theorem q156_39 : qD 156 39 (.iload_n 3) 1 40 ∧ ((3 : Fin 4) : Nat) = 3 := by decide +kernel
theorem q156_40 : qD 156 40 (.iload_n 2) 1 41 ∧ ((2 : Fin 4) : Nat) = 2 := by decide +kernel
theorem q156_41 : qJ 156 41 (.if_icmp .ne 6) 44 (6) 47 := by decide +kernel
theorem q156_44 : qD 156 44 (.iload 4) 2 46 := by decide +kernel
theorem q156_46 : qD 156 46 (.ireturn) 1 47 ∧ mR 156 = some .int := by decide +kernel
theorem q156_47 : qD 156 47 (.iinc 3 1) 3 50 ∧ 3 < mL 156 ∧ Int32.ofInt (1) = (1 : Int32) := by decide +kernel
theorem q156_50 : qD 156 50 (.iinc 4 1) 3 53 ∧ 4 < mL 156 ∧ Int32.ofInt (1) = (1 : Int32) := by decide +kernel
theorem q156_53 : qJ 156 53 (.goto (-33)) 56 (-33) 20 := by decide +kernel
theorem q156_56 : qD 156 56 (.iload_n 2) 1 57 ∧ ((2 : Fin 4) : Nat) = 2 := by decide +kernel
theorem q156_57 : qD 156 57 (.iconst (-1)) 1 58 ∧ Int32.ofInt (-1) = (-1 : Int32) := by decide +kernel
theorem q156_58 : qJ 156 58 (.if_icmp .ne 7) 61 (7) 65 := by decide +kernel
theorem q156_61 : qD 156 61 (.iload_n 3) 1 62 ∧ ((3 : Fin 4) : Nat) = 3 := by decide +kernel
theorem q156_62 : qJ 156 62 (.goto 4) 65 (4) 66 := by decide +kernel
theorem q156_65 : qD 156 65 (.iconst (-1)) 1 66 ∧ Int32.ofInt (-1) = (-1 : Int32) := by decide +kernel
theorem q156_66 : qD 156 66 (.ireturn) 1 67 ∧ mR 156 = some .int := by decide +kernel
theorem q157_0 : qD 157 0 (.aload_n 0) 1 1 ∧ ((0 : Fin 4) : Nat) = 0 := by decide +kernel
theorem q157_1 : qD 157 1 (.iload_n 1) 1 2 ∧ ((1 : Fin 4) : Nat) = 1 := by decide +kernel
theorem q157_2 : qD 157 2 (.invokevirtual 386) 3 5 ∧ qI 157 386 161 1138 := by decide +kernel
theorem q157_5 : qJ 157 5 (.ifCond .eq 12) 8 (12) 17 := by decide +kernel
theorem q157_8 : qD 157 8 (.iload_n 2) 1 9 ∧ ((2 : Fin 4) : Nat) = 2 := by decide +kernel
theorem q157_9 : qJ 157 9 (.ifCond .lt 8) 12 (8) 17 := by decide +kernel
theorem q157_12 : qD 157 12 (.iload_n 2) 1 13 ∧ ((2 : Fin 4) : Nat) = 2 := by decide +kernel
theorem q157_13 : qD 157 13 (.iconst 1) 1 14 ∧ Int32.ofInt (1) = (1 : Int32) := by decide +kernel
theorem q157_14 : qJ 157 14 (.if_icmp .le 5) 17 (5) 19 := by decide +kernel
theorem q157_17 : qD 157 17 (.iconst (-1)) 1 18 ∧ Int32.ofInt (-1) = (-1 : Int32) := by decide +kernel
theorem q157_18 : qD 157 18 (.ireturn) 1 19 ∧ mR 157 = some .int := by decide +kernel
theorem q157_19 : qD 157 19 (.aload_n 0) 1 20 ∧ ((0 : Fin 4) : Nat) = 0 := by decide +kernel
theorem q157_20 : qD 157 20 (.invokevirtual 389) 3 23 ∧ qI 157 389 162 1118 := by decide +kernel
theorem q157_23 : qD 157 23 (.iconst 1) 1 24 ∧ Int32.ofInt (1) = (1 : Int32) := by decide +kernel
theorem q157_24 : qD 157 24 (.isub) 1 25 := by decide +kernel
theorem q157_25 : qD 157 25 (.istore_n 3) 1 26 ∧ ((3 : Fin 4) : Nat) = 3 ∧ 3 < mL 157 := by decide +kernel
theorem q157_26 : qD 157 26 (.iconst 0) 1 27 ∧ Int32.ofInt (0) = (0 : Int32) := by decide +kernel
theorem q157_27 : qD 157 27 (.istore 4) 2 29 ∧ 4 < mL 157 := by decide +kernel
theorem q157_29 : qD 157 29 (.iconst 0) 1 30 ∧ Int32.ofInt (0) = (0 : Int32) := by decide +kernel
theorem q157_30 : qD 157 30 (.istore 5) 2 32 ∧ 5 < mL 157 := by decide +kernel
theorem q157_32 : qD 157 32 (.iconst 0) 1 33 ∧ Int32.ofInt (0) = (0 : Int32) := by decide +kernel
theorem q157_33 : qD 157 33 (.istore 6) 2 35 ∧ 6 < mL 157 := by decide +kernel
theorem q157_35 : qD 157 35 (.iload 6) 2 37 := by decide +kernel
theorem q157_37 : qD 157 37 (.aload_n 0) 1 38 ∧ ((0 : Fin 4) : Nat) = 0 := by decide +kernel
theorem q157_38 : qD 157 38 (.invokevirtual 389) 3 41 ∧ qI 157 389 162 1118 := by decide +kernel
theorem q157_41 : qJ 157 41 (.if_icmp .ge 34) 44 (34) 75 := by decide +kernel
theorem q157_44 : qD 157 44 (.aload_n 0) 1 45 ∧ ((0 : Fin 4) : Nat) = 0 := by decide +kernel
theorem q157_45 : qD 157 45 (.iload 6) 2 47 := by decide +kernel
theorem q157_47 : qD 157 47 (.invokevirtual 392) 3 50 ∧ qI 157 392 163 1122 := by decide +kernel
theorem q157_50 : qD 157 50 (.iload_n 1) 1 51 ∧ ((1 : Fin 4) : Nat) = 1 := by decide +kernel
theorem q157_51 : qJ 157 51 (.if_icmp .gt 18) 54 (18) 69 := by decide +kernel
theorem q157_54 : qD 157 54 (.iload_n 3) 1 55 ∧ ((3 : Fin 4) : Nat) = 3 := by decide +kernel
theorem q157_55 : qD 157 55 (.iload 6) 2 57 := by decide +kernel
theorem q157_57 : qD 157 57 (.iand) 1 58 := by decide +kernel
theorem q157_58 : qD 157 58 (.istore_n 3) 1 59 ∧ ((3 : Fin 4) : Nat) = 3 ∧ 3 < mL 157 := by decide +kernel
theorem q157_59 : qD 157 59 (.iload 4) 2 61 := by decide +kernel
theorem q157_61 : qD 157 61 (.iload 6) 2 63 := by decide +kernel
theorem q157_63 : qD 157 63 (.ior) 1 64 := by decide +kernel
theorem q157_64 : qD 157 64 (.istore 4) 2 66 ∧ 4 < mL 157 := by decide +kernel
theorem q157_66 : qD 157 66 (.iconst 1) 1 67 ∧ Int32.ofInt (1) = (1 : Int32) := by decide +kernel
theorem q157_67 : qD 157 67 (.istore 5) 2 69 ∧ 5 < mL 157 := by decide +kernel
theorem q157_69 : qD 157 69 (.iinc 6 1) 3 72 ∧ 6 < mL 157 ∧ Int32.ofInt (1) = (1 : Int32) := by decide +kernel
theorem q157_72 : qJ 157 72 (.goto (-37)) 75 (-37) 35 := by decide +kernel
theorem q157_75 : qD 157 75 (.iload 5) 2 77 := by decide +kernel
theorem q157_77 : qJ 157 77 (.ifCond .ne 5) 80 (5) 82 := by decide +kernel
theorem q157_80 : qD 157 80 (.iconst (-1)) 1 81 ∧ Int32.ofInt (-1) = (-1 : Int32) := by decide +kernel
theorem q157_81 : qD 157 81 (.ireturn) 1 82 ∧ mR 157 = some .int := by decide +kernel
theorem q157_82 : qD 157 82 (.iload_n 2) 1 83 ∧ ((2 : Fin 4) : Nat) = 2 := by decide +kernel
theorem q157_83 : qJ 157 83 (.ifCond .ne 7) 86 (7) 90 := by decide +kernel
theorem q157_86 : qD 157 86 (.iload_n 3) 1 87 ∧ ((3 : Fin 4) : Nat) = 3 := by decide +kernel
theorem q157_87 : qJ 157 87 (.goto 12) 90 (12) 99 := by decide +kernel
theorem q157_90 : qD 157 90 (.aload_n 0) 1 91 ∧ ((0 : Fin 4) : Nat) = 0 := by decide +kernel
theorem q157_91 : qD 157 91 (.invokevirtual 389) 3 94 ∧ qI 157 389 162 1118 := by decide +kernel
theorem q157_94 : qD 157 94 (.iconst 1) 1 95 ∧ Int32.ofInt (1) = (1 : Int32) := by decide +kernel
theorem q157_95 : qD 157 95 (.isub) 1 96 := by decide +kernel
theorem q157_96 : qD 157 96 (.iload 4) 2 98 := by decide +kernel
theorem q157_98 : qD 157 98 (.isub) 1 99 := by decide +kernel
theorem q157_99 : qD 157 99 (.ireturn) 1 100 ∧ mR 157 = some .int := by decide +kernel
theorem q158_0 : qD 158 0 (.aload_n 0) 1 1 ∧ ((0 : Fin 4) : Nat) = 0 := by decide +kernel
theorem q158_1 : qD 158 1 (.iload_n 1) 1 2 ∧ ((1 : Fin 4) : Nat) = 1 := by decide +kernel
theorem q158_2 : qD 158 2 (.invokevirtual 386) 3 5 ∧ qI 158 386 161 1138 := by decide +kernel
theorem q158_5 : qJ 158 5 (.ifCond .ne 5) 8 (5) 10 := by decide +kernel
theorem q158_8 : qD 158 8 (.iconst (-1)) 1 9 ∧ Int32.ofInt (-1) = (-1 : Int32) := by decide +kernel
theorem q158_9 : qD 158 9 (.ireturn) 1 10 ∧ mR 158 = some .int := by decide +kernel
theorem q158_10 : qD 158 10 (.iconst (-1)) 1 11 ∧ Int32.ofInt (-1) = (-1 : Int32) := by decide +kernel
theorem q158_11 : qD 158 11 (.istore_n 2) 1 12 ∧ ((2 : Fin 4) : Nat) = 2 ∧ 2 < mL 158 := by decide +kernel
theorem q158_12 : qD 158 12 (.aload_n 0) 1 13 ∧ ((0 : Fin 4) : Nat) = 0 := by decide +kernel
theorem q158_13 : qD 158 13 (.invokevirtual 389) 3 16 ∧ qI 158 389 162 1118 := by decide +kernel
theorem q158_16 : qD 158 16 (.iconst 1) 1 17 ∧ Int32.ofInt (1) = (1 : Int32) := by decide +kernel
theorem q158_17 : qD 158 17 (.iadd) 1 18 := by decide +kernel
theorem q158_18 : qD 158 18 (.istore_n 3) 1 19 ∧ ((3 : Fin 4) : Nat) = 3 ∧ 3 < mL 158 := by decide +kernel
theorem q158_19 : qD 158 19 (.iconst 0) 1 20 ∧ Int32.ofInt (0) = (0 : Int32) := by decide +kernel
theorem q158_20 : qD 158 20 (.istore 4) 2 22 ∧ 4 < mL 158 := by decide +kernel
theorem q158_22 : qD 158 22 (.iload 4) 2 24 := by decide +kernel
theorem q158_24 : qD 158 24 (.aload_n 0) 1 25 ∧ ((0 : Fin 4) : Nat) = 0 := by decide +kernel
theorem q158_25 : qG 158 25 19 28 10 1 325 2 := by decide +kernel
theorem q158_28 : qG 158 28 214 31 3 4 183 0 := by decide +kernel
theorem q158_31 : qJ 158 31 (.if_icmp .ge 36) 34 (36) 67 := by decide +kernel
theorem q158_34 : qD 158 34 (.aload_n 0) 1 35 ∧ ((0 : Fin 4) : Nat) = 0 := by decide +kernel
theorem q158_35 : qD 158 35 (.iload 4) 2 37 := by decide +kernel
theorem q158_37 : qD 158 37 (.iload_n 1) 1 38 ∧ ((1 : Fin 4) : Nat) = 1 := by decide +kernel
theorem q158_38 : qD 158 38 (.invokevirtual 395) 3 41 ∧ qI 158 395 165 1150 := by decide +kernel
theorem q158_41 : qD 158 41 (.istore 5) 2 43 ∧ 5 < mL 158 := by decide +kernel
theorem q158_43 : qD 158 43 (.iload 5) 2 45 := by decide +kernel
theorem q158_45 : qD 158 45 (.iconst (-1)) 1 46 ∧ Int32.ofInt (-1) = (-1 : Int32) := by decide +kernel
theorem q158_46 : qJ 158 46 (.if_icmp .eq 15) 49 (15) 61 := by decide +kernel
theorem q158_49 : qD 158 49 (.iload 5) 2 51 := by decide +kernel
theorem q158_51 : qD 158 51 (.iload_n 3) 1 52 ∧ ((3 : Fin 4) : Nat) = 3 := by decide +kernel
theorem q158_52 : qJ 158 52 (.if_icmp .ge 9) 55 (9) 61 := by decide +kernel
theorem q158_55 : qD 158 55 (.iload 4) 2 57 := by decide +kernel
theorem q158_57 : qD 158 57 (.istore_n 2) 1 58 ∧ ((2 : Fin 4) : Nat) = 2 ∧ 2 < mL 158 := by decide +kernel
theorem q158_58 : qD 158 58 (.iload 5) 2 60 := by decide +kernel
theorem q158_60 : qD 158 60 (.istore_n 3) 1 61 ∧ ((3 : Fin 4) : Nat) = 3 ∧ 3 < mL 158 := by decide +kernel
theorem q158_61 : qD 158 61 (.iinc 4 1) 3 64 ∧ 4 < mL 158 ∧ Int32.ofInt (1) = (1 : Int32) := by decide +kernel
theorem q158_64 : qJ 158 64 (.goto (-42)) 67 (-42) 22 := by decide +kernel
theorem q158_67 : qD 158 67 (.iload_n 2) 1 68 ∧ ((2 : Fin 4) : Nat) = 2 := by decide +kernel
theorem q158_68 : qD 158 68 (.ireturn) 1 69 ∧ mR 158 = some .int := by decide +kernel
theorem q159_0 : qD 159 0 (.aload_n 0) 1 1 ∧ ((0 : Fin 4) : Nat) = 0 := by decide +kernel
theorem q159_1 : qD 159 1 (.invokevirtual 151) 3 4 ∧ qI 159 151 102 695 := by decide +kernel
theorem q159_4 : qJ 159 4 (.ifCond .ne 5) 7 (5) 9 := by decide +kernel
theorem q159_7 : qD 159 7 (.iconst (-1)) 1 8 ∧ Int32.ofInt (-1) = (-1 : Int32) := by decide +kernel
theorem q159_8 : qD 159 8 (.ireturn) 1 9 ∧ mR 159 = some .int := by decide +kernel
theorem q159_9 : qD 159 9 (.aload_n 0) 1 10 ∧ ((0 : Fin 4) : Nat) = 0 := by decide +kernel
theorem q159_10 : qD 159 10 (.invokevirtual 383) 3 13 ∧ qI 159 383 164 1114 := by decide +kernel
theorem q159_13 : qD 159 13 (.istore_n 1) 1 14 ∧ ((1 : Fin 4) : Nat) = 1 ∧ 1 < mL 159 := by decide +kernel
theorem q159_14 : qD 159 14 (.iconst 1) 1 15 ∧ Int32.ofInt (1) = (1 : Int32) := by decide +kernel
theorem q159_15 : qD 159 15 (.aload_n 0) 1 16 ∧ ((0 : Fin 4) : Nat) = 0 := by decide +kernel
theorem q159_16 : qG 159 16 19 19 10 1 325 2 := by decide +kernel
theorem q159_19 : qG 159 19 148 22 3 3 179 0 := by decide +kernel
theorem q159_22 : qD 159 22 (.ishl) 1 23 := by decide +kernel
theorem q159_23 : qD 159 23 (.iconst 1) 1 24 ∧ Int32.ofInt (1) = (1 : Int32) := by decide +kernel
theorem q159_24 : qD 159 24 (.isub) 1 25 := by decide +kernel
theorem q159_25 : qD 159 25 (.istore_n 2) 1 26 ∧ ((2 : Fin 4) : Nat) = 2 ∧ 2 < mL 159 := by decide +kernel
theorem q159_26 : qD 159 26 (.iconst 0) 1 27 ∧ Int32.ofInt (0) = (0 : Int32) := by decide +kernel
theorem q159_27 : qD 159 27 (.istore_n 3) 1 28 ∧ ((3 : Fin 4) : Nat) = 3 ∧ 3 < mL 159 := by decide +kernel
theorem q159_28 : qD 159 28 (.iload_n 3) 1 29 ∧ ((3 : Fin 4) : Nat) = 3 := by decide +kernel
theorem q159_29 : qD 159 29 (.aload_n 0) 1 30 ∧ ((0 : Fin 4) : Nat) = 0 := by decide +kernel
theorem q159_30 : qD 159 30 (.invokevirtual 389) 3 33 ∧ qI 159 389 162 1118 := by decide +kernel
theorem q159_33 : qJ 159 33 (.if_icmp .ge 33) 36 (33) 66 := by decide +kernel
theorem q159_36 : qD 159 36 (.aload_n 0) 1 37 ∧ ((0 : Fin 4) : Nat) = 0 := by decide +kernel
theorem q159_37 : qG 159 37 84 40 10 17 341 2 := by decide +kernel
theorem q159_40 : qD 159 40 (.iload_n 3) 1 41 ∧ ((3 : Fin 4) : Nat) = 3 := by decide +kernel
theorem q159_41 : qD 159 41 (.invokevirtual 398) 3 44 ∧ qI 159 398 85 1126 := by decide +kernel
theorem q159_44 : qD 159 44 (.istore 4) 2 46 ∧ 4 < mL 159 := by decide +kernel
theorem q159_46 : qD 159 46 (.iload 4) 2 48 := by decide +kernel
theorem q159_48 : qD 159 48 (.invokestatic 338) 3 51 ∧ qI 159 338 295 1017 := by decide +kernel
theorem q159_51 : qD 159 51 (.iload_n 1) 1 52 ∧ ((1 : Fin 4) : Nat) = 1 := by decide +kernel
theorem q159_52 : qJ 159 52 (.if_icmp .ne 8) 55 (8) 60 := by decide +kernel
theorem q159_55 : qD 159 55 (.iload_n 2) 1 56 ∧ ((2 : Fin 4) : Nat) = 2 := by decide +kernel
theorem q159_56 : qD 159 56 (.iload 4) 2 58 := by decide +kernel
theorem q159_58 : qD 159 58 (.iand) 1 59 := by decide +kernel
theorem q159_59 : qD 159 59 (.istore_n 2) 1 60 ∧ ((2 : Fin 4) : Nat) = 2 ∧ 2 < mL 159 := by decide +kernel
theorem q159_60 : qD 159 60 (.iinc 3 1) 3 63 ∧ 3 < mL 159 ∧ Int32.ofInt (1) = (1 : Int32) := by decide +kernel
theorem q159_63 : qJ 159 63 (.goto (-35)) 66 (-35) 28 := by decide +kernel
theorem q159_66 : qD 159 66 (.iload_n 2) 1 67 ∧ ((2 : Fin 4) : Nat) = 2 := by decide +kernel
theorem q159_67 : qD 159 67 (.ireturn) 1 68 ∧ mR 159 = some .int := by decide +kernel
theorem q160_0 : qD 160 0 (.aload_n 0) 1 1 ∧ ((0 : Fin 4) : Nat) = 0 := by decide +kernel
theorem q160_1 : qD 160 1 (.iload_n 1) 1 2 ∧ ((1 : Fin 4) : Nat) = 1 := by decide +kernel
theorem q160_2 : qD 160 2 (.invokevirtual 193) 3 5 ∧ qI 160 193 105 715 := by decide +kernel
theorem q160_5 : qJ 160 5 (.ifCond .ne 5) 8 (5) 10 := by decide +kernel
theorem q160_8 : qD 160 8 (.iconst (-1)) 1 9 ∧ Int32.ofInt (-1) = (-1 : Int32) := by decide +kernel
theorem q160_9 : qD 160 9 (.ireturn) 1 10 ∧ mR 160 = some .int := by decide +kernel
theorem q160_10 : qD 160 10 (.lconst 0) 1 11 ∧ Int64.ofNat ((0 : Fin 2) : Nat) = 0 := by decide +kernel
theorem q160_11 : qD 160 11 (.lstore_n 2) 1 12 ∧ ((2 : Fin 4) : Nat) = 2 ∧ 2 + 1 < mL 160 := by decide +kernel
theorem q160_12 : qD 160 12 (.lconst 0) 1 13 ∧ Int64.ofNat ((0 : Fin 2) : Nat) = 0 := by decide +kernel
theorem q160_13 : qD 160 13 (.lstore 4) 2 15 ∧ 4 + 1 < mL 160 := by decide +kernel
theorem q160_15 : qD 160 15 (.iconst 0) 1 16 ∧ Int32.ofInt (0) = (0 : Int32) := by decide +kernel
theorem q160_16 : qD 160 16 (.istore 6) 2 18 ∧ 6 < mL 160 := by decide +kernel
theorem q160_18 : qD 160 18 (.iload 6) 2 20 := by decide +kernel
theorem q160_20 : qD 160 20 (.aload_n 0) 1 21 ∧ ((0 : Fin 4) : Nat) = 0 := by decide +kernel
theorem q160_21 : qD 160 21 (.invokevirtual 389) 3 24 ∧ qI 160 389 162 1118 := by decide +kernel
theorem q160_24 : qJ 160 24 (.if_icmp .ge 43) 27 (43) 67 := by decide +kernel
theorem q160_27 : qD 160 27 (.aload_n 0) 1 28 ∧ ((0 : Fin 4) : Nat) = 0 := by decide +kernel
theorem q160_28 : qD 160 28 (.iload 6) 2 30 := by decide +kernel
theorem q160_30 : qD 160 30 (.invokevirtual 399) 3 33 ∧ qI 160 399 166 1165 := by decide +kernel
theorem q160_33 : qD 160 33 (.lstore 7) 2 35 ∧ 7 + 1 < mL 160 := by decide +kernel
theorem q160_35 : qD 160 35 (.lload_n 2) 1 36 ∧ ((2 : Fin 4) : Nat) = 2 := by decide +kernel
theorem q160_36 : qD 160 36 (.lload 7) 2 38 := by decide +kernel
theorem q160_38 : qD 160 38 (.ladd) 1 39 := by decide +kernel
theorem q160_39 : qD 160 39 (.lstore_n 2) 1 40 ∧ ((2 : Fin 4) : Nat) = 2 ∧ 2 + 1 < mL 160 := by decide +kernel
theorem q160_40 : qD 160 40 (.lload 4) 2 42 := by decide +kernel
theorem q160_42 : qD 160 42 (.iload 6) 2 44 := by decide +kernel
theorem q160_44 : qD 160 44 (.iload_n 1) 1 45 ∧ ((1 : Fin 4) : Nat) = 1 := by decide +kernel
theorem q160_45 : qD 160 45 (.ishr) 1 46 := by decide +kernel
theorem q160_46 : qD 160 46 (.iconst 1) 1 47 ∧ Int32.ofInt (1) = (1 : Int32) := by decide +kernel
theorem q160_47 : qD 160 47 (.iand) 1 48 := by decide +kernel
theorem q160_48 : qD 160 48 (.iconst 1) 1 49 ∧ Int32.ofInt (1) = (1 : Int32) := by decide +kernel
theorem q160_49 : qJ 160 49 (.if_icmp .ne 8) 52 (8) 57 := by decide +kernel
theorem q160_52 : qD 160 52 (.lload 7) 2 54 := by decide +kernel
theorem q160_54 : qJ 160 54 (.goto 4) 57 (4) 58 := by decide +kernel
theorem q160_57 : qD 160 57 (.lconst 0) 1 58 ∧ Int64.ofNat ((0 : Fin 2) : Nat) = 0 := by decide +kernel
theorem q160_58 : qD 160 58 (.ladd) 1 59 := by decide +kernel
theorem q160_59 : qD 160 59 (.lstore 4) 2 61 ∧ 4 + 1 < mL 160 := by decide +kernel
theorem q160_61 : qD 160 61 (.iinc 6 1) 3 64 ∧ 6 < mL 160 ∧ Int32.ofInt (1) = (1 : Int32) := by decide +kernel
theorem q160_64 : qJ 160 64 (.goto (-46)) 67 (-46) 18 := by decide +kernel
theorem q160_67 : qD 160 67 (.lload 4) 2 69 := by decide +kernel
theorem q160_69 : qD 160 69 (.lload_n 2) 1 70 ∧ ((2 : Fin 4) : Nat) = 2 := by decide +kernel
theorem q160_70 : qD 160 70 (.invokestatic 403) 3 73 ∧ qI 160 403 167 1178 := by decide +kernel
theorem q160_73 : qD 160 73 (.ireturn) 1 74 ∧ mR 160 = some .int := by decide +kernel
theorem q161_0 : qD 161 0 (.aload_n 0) 1 1 ∧ ((0 : Fin 4) : Nat) = 0 := by decide +kernel
theorem q161_1 : qD 161 1 (.invokevirtual 151) 3 4 ∧ qI 161 151 102 695 := by decide +kernel
theorem q161_4 : qJ 161 4 (.ifCond .eq 17) 7 (17) 21 := by decide +kernel
theorem q161_7 : qD 161 7 (.iload_n 1) 1 8 ∧ ((1 : Fin 4) : Nat) = 1 := by decide +kernel
theorem q161_8 : qJ 161 8 (.ifCond .lt 13) 11 (13) 21 := by decide +kernel
theorem q161_11 : qD 161 11 (.iload_n 1) 1 12 ∧ ((1 : Fin 4) : Nat) = 1 := by decide +kernel
theorem q161_12 : qD 161 12 (.bipush 7) 2 14 ∧ (Int8.ofInt (7)).toInt32 = (7 : Int32) := by decide +kernel
theorem q161_14 : qJ 161 14 (.if_icmp .gt 7) 17 (7) 21 := by decide +kernel
theorem q161_17 : qD 161 17 (.iconst 1) 1 18 ∧ Int32.ofInt (1) = (1 : Int32) := by decide +kernel
theorem q161_18 : qJ 161 18 (.goto 4) 21 (4) 22 := by decide +kernel
theorem q161_21 : qD 161 21 (.iconst 0) 1 22 ∧ Int32.ofInt (0) = (0 : Int32) := by decide +kernel
theorem q161_22 : qD 161 22 (.ireturn) 1 23 ∧ mR 161 = some .boolean := by decide +kernel
theorem q162_0 : qD 162 0 (.iconst 1) 1 1 ∧ Int32.ofInt (1) = (1 : Int32) := by decide +kernel
theorem q162_1 : qD 162 1 (.aload_n 0) 1 2 ∧ ((0 : Fin 4) : Nat) = 0 := by decide +kernel
theorem q162_2 : qG 162 2 19 5 10 1 325 2 := by decide +kernel
theorem q162_5 : qG 162 5 214 8 3 4 183 0 := by decide +kernel
theorem q162_8 : qD 162 8 (.ishl) 1 9 := by decide +kernel
theorem q162_9 : qD 162 9 (.ireturn) 1 10 ∧ mR 162 = some .int := by decide +kernel
theorem q163_0 : qD 163 0 (.aload_n 0) 1 1 ∧ ((0 : Fin 4) : Nat) = 0 := by decide +kernel
theorem q163_1 : qG 163 1 84 4 10 17 341 2 := by decide +kernel
theorem q163_4 : qD 163 4 (.iload_n 1) 1 5 ∧ ((1 : Fin 4) : Nat) = 1 := by decide +kernel
theorem q163_5 : qD 163 5 (.invokevirtual 398) 3 8 ∧ qI 163 398 85 1126 := by decide +kernel
theorem q163_8 : qD 163 8 (.invokestatic 338) 3 11 ∧ qI 163 338 295 1017 := by decide +kernel
theorem q163_11 : qD 163 11 (.ireturn) 1 12 ∧ mR 163 = some .int := by decide +kernel
theorem q164_0 : qD 164 0 (.bipush 7) 2 2 ∧ (Int8.ofInt (7)).toInt32 = (7 : Int32) := by decide +kernel
theorem q164_2 : qD 164 2 (.istore_n 1) 1 3 ∧ ((1 : Fin 4) : Nat) = 1 ∧ 1 < mL 164 := by decide +kernel
theorem q164_3 : qD 164 3 (.iconst 0) 1 4 ∧ Int32.ofInt (0) = (0 : Int32) := by decide +kernel
theorem q164_4 : qD 164 4 (.istore_n 2) 1 5 ∧ ((2 : Fin 4) : Nat) = 2 ∧ 2 < mL 164 := by decide +kernel
theorem q164_5 : qD 164 5 (.iload_n 2) 1 6 ∧ ((2 : Fin 4) : Nat) = 2 := by decide +kernel
theorem q164_6 : qD 164 6 (.aload_n 0) 1 7 ∧ ((0 : Fin 4) : Nat) = 0 := by decide +kernel
theorem q164_7 : qD 164 7 (.invokevirtual 389) 3 10 ∧ qI 164 389 162 1118 := by decide +kernel
theorem q164_10 : qJ 164 10 (.if_icmp .ge 19) 13 (19) 29 := by decide +kernel
theorem q164_13 : qD 164 13 (.iload_n 1) 1 14 ∧ ((1 : Fin 4) : Nat) = 1 := by decide +kernel
theorem q164_14 : qD 164 14 (.aload_n 0) 1 15 ∧ ((0 : Fin 4) : Nat) = 0 := by decide +kernel
theorem q164_15 : qD 164 15 (.iload_n 2) 1 16 ∧ ((2 : Fin 4) : Nat) = 2 := by decide +kernel
theorem q164_16 : qD 164 16 (.invokevirtual 392) 3 19 ∧ qI 164 392 163 1122 := by decide +kernel
theorem q164_19 : qD 164 19 (.invokestatic 233) 3 22 ∧ inG 747 (.methodLink (mN 164).cls 233 Lib.Math.min.name) := by decide +kernel
theorem q164_22 : qD 164 22 (.istore_n 1) 1 23 ∧ ((1 : Fin 4) : Nat) = 1 ∧ 1 < mL 164 := by decide +kernel
theorem q164_23 : qD 164 23 (.iinc 2 1) 3 26 ∧ 2 < mL 164 ∧ Int32.ofInt (1) = (1 : Int32) := by decide +kernel
theorem q164_26 : qJ 164 26 (.goto (-21)) 29 (-21) 5 := by decide +kernel
theorem q164_29 : qD 164 29 (.iload_n 1) 1 30 ∧ ((1 : Fin 4) : Nat) = 1 := by decide +kernel
theorem q164_30 : qD 164 30 (.ireturn) 1 31 ∧ mR 164 = some .int := by decide +kernel
theorem q165_0 : qD 165 0 (.iconst 0) 1 1 ∧ Int32.ofInt (0) = (0 : Int32) := by decide +kernel
theorem q165_1 : qD 165 1 (.istore_n 3) 1 2 ∧ ((3 : Fin 4) : Nat) = 3 ∧ 3 < mL 165 := by decide +kernel
theorem q165_2 : qD 165 2 (.iconst 0) 1 3 ∧ Int32.ofInt (0) = (0 : Int32) := by decide +kernel
theorem q165_3 : qD 165 3 (.istore 4) 2 5 ∧ 4 < mL 165 := by decide +kernel
theorem q165_5 : qD 165 5 (.iconst 0) 1 6 ∧ Int32.ofInt (0) = (0 : Int32) := by decide +kernel
theorem q165_6 : qD 165 6 (.istore 5) 2 8 ∧ 5 < mL 165 := by decide +kernel
theorem q165_8 : qD 165 8 (.iload 5) 2 10 := by decide +kernel
theorem q165_10 : qD 165 10 (.aload_n 0) 1 11 ∧ ((0 : Fin 4) : Nat) = 0 := by decide +kernel
theorem q165_11 : qD 165 11 (.invokevirtual 389) 3 14 ∧ qI 165 389 162 1118 := by decide +kernel
theorem q165_14 : qJ 165 14 (.if_icmp .ge 40) 17 (40) 54 := by decide +kernel
theorem q165_17 : qD 165 17 (.aload_n 0) 1 18 ∧ ((0 : Fin 4) : Nat) = 0 := by decide +kernel
theorem q165_18 : qD 165 18 (.iload 5) 2 20 := by decide +kernel
theorem q165_20 : qD 165 20 (.invokevirtual 392) 3 23 ∧ qI 165 392 163 1122 := by decide +kernel
theorem q165_23 : qD 165 23 (.iload_n 2) 1 24 ∧ ((2 : Fin 4) : Nat) = 2 := by decide +kernel
theorem q165_24 : qJ 165 24 (.if_icmp .gt 24) 27 (24) 48 := by decide +kernel
theorem q165_27 : qD 165 27 (.iload_n 3) 1 28 ∧ ((3 : Fin 4) : Nat) = 3 := by decide +kernel
theorem q165_28 : qD 165 28 (.iload 5) 2 30 := by decide +kernel
theorem q165_30 : qD 165 30 (.iload_n 1) 1 31 ∧ ((1 : Fin 4) : Nat) = 1 := by decide +kernel
theorem q165_31 : qD 165 31 (.ishr) 1 32 := by decide +kernel
theorem q165_32 : qD 165 32 (.iconst 1) 1 33 ∧ Int32.ofInt (1) = (1 : Int32) := by decide +kernel
theorem q165_33 : qD 165 33 (.iand) 1 34 := by decide +kernel
theorem q165_34 : qD 165 34 (.iconst 1) 1 35 ∧ Int32.ofInt (1) = (1 : Int32) := by decide +kernel
theorem q165_35 : qJ 165 35 (.if_icmp .ne 7) 38 (7) 42 := by decide +kernel
theorem q165_38 : qD 165 38 (.iconst 1) 1 39 ∧ Int32.ofInt (1) = (1 : Int32) := by decide +kernel
theorem q165_39 : qJ 165 39 (.goto 4) 42 (4) 43 := by decide +kernel
theorem q165_42 : qD 165 42 (.iconst (-1)) 1 43 ∧ Int32.ofInt (-1) = (-1 : Int32) := by decide +kernel
theorem q165_43 : qD 165 43 (.iadd) 1 44 := by decide +kernel
theorem q165_44 : qD 165 44 (.istore_n 3) 1 45 ∧ ((3 : Fin 4) : Nat) = 3 ∧ 3 < mL 165 := by decide +kernel
theorem q165_45 : qD 165 45 (.iconst 1) 1 46 ∧ Int32.ofInt (1) = (1 : Int32) := by decide +kernel
theorem q165_46 : qD 165 46 (.istore 4) 2 48 ∧ 4 < mL 165 := by decide +kernel
theorem q165_48 : qD 165 48 (.iinc 5 1) 3 51 ∧ 5 < mL 165 ∧ Int32.ofInt (1) = (1 : Int32) := by decide +kernel
theorem q165_51 : qJ 165 51 (.goto (-43)) 54 (-43) 8 := by decide +kernel
theorem q165_54 : qD 165 54 (.iload 4) 2 56 := by decide +kernel
theorem q165_56 : qJ 165 56 (.ifCond .eq 10) 59 (10) 66 := by decide +kernel
theorem q165_59 : qD 165 59 (.iload_n 3) 1 60 ∧ ((3 : Fin 4) : Nat) = 3 := by decide +kernel
theorem q165_60 : qD 165 60 (.invokestatic 407) 3 63 ∧ inG 1154 (.methodLink (mN 165).cls 407 Lib.Math.abs.name) := by decide +kernel
theorem q165_63 : qJ 165 63 (.goto 4) 66 (4) 67 := by decide +kernel
theorem q165_66 : qD 165 66 (.iconst (-1)) 1 67 ∧ Int32.ofInt (-1) = (-1 : Int32) := by decide +kernel
theorem q165_67 : qD 165 67 (.ireturn) 1 68 ∧ mR 165 = some .int := by decide +kernel
theorem q166_0 : qD 166 0 (.lconst 1) 1 1 ∧ Int64.ofNat ((1 : Fin 2) : Nat) = 1 := by decide +kernel
theorem q166_1 : qD 166 1 (.lstore_n 2) 1 2 ∧ ((2 : Fin 4) : Nat) = 2 ∧ 2 + 1 < mL 166 := by decide +kernel
theorem q166_2 : qD 166 2 (.iconst 0) 1 3 ∧ Int32.ofInt (0) = (0 : Int32) := by decide +kernel
theorem q166_3 : qD 166 3 (.istore 4) 2 5 ∧ 4 < mL 166 := by decide +kernel
theorem q166_5 : qD 166 5 (.iload 4) 2 7 := by decide +kernel
theorem q166_7 : qD 166 7 (.aload_n 0) 1 8 ∧ ((0 : Fin 4) : Nat) = 0 := by decide +kernel
theorem q166_8 : qG 166 8 19 11 10 1 325 2 := by decide +kernel
theorem q166_11 : qG 166 11 214 14 3 4 183 0 := by decide +kernel
theorem q166_14 : qJ 166 14 (.if_icmp .ge 45) 17 (45) 59 := by decide +kernel
theorem q166_17 : qD 166 17 (.aload_n 0) 1 18 ∧ ((0 : Fin 4) : Nat) = 0 := by decide +kernel
theorem q166_18 : qG 166 18 19 21 10 1 325 2 := by decide +kernel
theorem q166_21 : qD 166 21 (.iload 4) 2 23 := by decide +kernel
theorem q166_23 : qD 166 23 (.invokevirtual 199) 3 26 ∧ qI 166 199 26 723 := by decide +kernel
theorem q166_26 : qD 166 26 (.istore 5) 2 28 ∧ 5 < mL 166 := by decide +kernel
theorem q166_28 : qD 166 28 (.lload_n 2) 1 29 ∧ ((2 : Fin 4) : Nat) = 2 := by decide +kernel
theorem q166_29 : qD 166 29 (.iload_n 1) 1 30 ∧ ((1 : Fin 4) : Nat) = 1 := by decide +kernel
theorem q166_30 : qD 166 30 (.iload 4) 2 32 := by decide +kernel
theorem q166_32 : qD 166 32 (.ishr) 1 33 := by decide +kernel
theorem q166_33 : qD 166 33 (.iconst 1) 1 34 ∧ Int32.ofInt (1) = (1 : Int32) := by decide +kernel
theorem q166_34 : qD 166 34 (.iand) 1 35 := by decide +kernel
theorem q166_35 : qD 166 35 (.iconst 1) 1 36 ∧ Int32.ofInt (1) = (1 : Int32) := by decide +kernel
theorem q166_36 : qJ 166 36 (.if_icmp .ne 9) 39 (9) 45 := by decide +kernel
theorem q166_39 : qD 166 39 (.iload 5) 2 41 := by decide +kernel
theorem q166_41 : qD 166 41 (.i2l) 1 42 := by decide +kernel
theorem q166_42 : qJ 166 42 (.goto 9) 45 (9) 51 := by decide +kernel
theorem q166_45 : qD 166 45 (.bipush 10) 2 47 ∧ (Int8.ofInt (10)).toInt32 = (10 : Int32) := by decide +kernel
theorem q166_47 : qD 166 47 (.iload 5) 2 49 := by decide +kernel
theorem q166_49 : qD 166 49 (.isub) 1 50 := by decide +kernel
theorem q166_50 : qD 166 50 (.i2l) 1 51 := by decide +kernel
theorem q166_51 : qD 166 51 (.lmul) 1 52 := by decide +kernel
theorem q166_52 : qD 166 52 (.lstore_n 2) 1 53 ∧ ((2 : Fin 4) : Nat) = 2 ∧ 2 + 1 < mL 166 := by decide +kernel
theorem q166_53 : qD 166 53 (.iinc 4 1) 3 56 ∧ 4 < mL 166 ∧ Int32.ofInt (1) = (1 : Int32) := by decide +kernel
theorem q166_56 : qJ 166 56 (.goto (-51)) 59 (-51) 5 := by decide +kernel
theorem q166_59 : qD 166 59 (.iconst 0) 1 60 ∧ Int32.ofInt (0) = (0 : Int32) := by decide +kernel
theorem q166_60 : qD 166 60 (.istore 4) 2 62 ∧ 4 < mL 166 := by decide +kernel
theorem q166_62 : qD 166 62 (.iload 4) 2 64 := by decide +kernel
theorem q166_64 : qD 166 64 (.aload_n 0) 1 65 ∧ ((0 : Fin 4) : Nat) = 0 := by decide +kernel
theorem q166_65 : qG 166 65 19 68 10 1 325 2 := by decide +kernel
theorem q166_68 : qG 166 68 148 71 3 3 179 0 := by decide +kernel
theorem q166_71 : qJ 166 71 (.if_icmp .ge 60) 74 (60) 131 := by decide +kernel
theorem q166_74 : qD 166 74 (.aload_n 0) 1 75 ∧ ((0 : Fin 4) : Nat) = 0 := by decide +kernel
theorem q166_75 : qG 166 75 84 78 10 17 341 2 := by decide +kernel
theorem q166_78 : qD 166 78 (.iload 4) 2 80 := by decide +kernel
theorem q166_80 : qD 166 80 (.invokevirtual 410) 3 83 ∧ qI 166 410 83 1169 := by decide +kernel
theorem q166_83 : qJ 166 83 (.ifCond .eq 42) 86 (42) 125 := by decide +kernel
theorem q166_86 : qD 166 86 (.aload_n 0) 1 87 ∧ ((0 : Fin 4) : Nat) = 0 := by decide +kernel
theorem q166_87 : qG 166 87 19 90 10 1 325 2 := by decide +kernel
theorem q166_90 : qD 166 90 (.iload 4) 2 92 := by decide +kernel
theorem q166_92 : qD 166 92 (.invokevirtual 176) 3 95 ∧ qI 166 176 22 1173 := by decide +kernel
theorem q166_95 : qD 166 95 (.istore 5) 2 97 ∧ 5 < mL 166 := by decide +kernel
theorem q166_97 : qD 166 97 (.lload_n 2) 1 98 ∧ ((2 : Fin 4) : Nat) = 2 := by decide +kernel
theorem q166_98 : qD 166 98 (.aload_n 0) 1 99 ∧ ((0 : Fin 4) : Nat) = 0 := by decide +kernel
theorem q166_99 : qG 166 99 84 102 10 17 341 2 := by decide +kernel
theorem q166_102 : qD 166 102 (.iload 4) 2 104 := by decide +kernel
theorem q166_104 : qD 166 104 (.iload_n 1) 1 105 ∧ ((1 : Fin 4) : Nat) = 1 := by decide +kernel
theorem q166_105 : qD 166 105 (.invokevirtual 413) 3 108 ∧ qI 166 413 84 1177 := by decide +kernel
theorem q166_108 : qJ 166 108 (.ifCond .eq 12) 111 (12) 120 := by decide +kernel
theorem q166_111 : qD 166 111 (.bipush 10) 2 113 ∧ (Int8.ofInt (10)).toInt32 = (10 : Int32) := by decide +kernel
theorem q166_113 : qD 166 113 (.iload 5) 2 115 := by decide +kernel
theorem q166_115 : qD 166 115 (.isub) 1 116 := by decide +kernel
theorem q166_116 : qD 166 116 (.i2l) 1 117 := by decide +kernel
theorem q166_117 : qJ 166 117 (.goto 6) 120 (6) 123 := by decide +kernel
theorem q166_120 : qD 166 120 (.iload 5) 2 122 := by decide +kernel
theorem q166_122 : qD 166 122 (.i2l) 1 123 := by decide +kernel
theorem q166_123 : qD 166 123 (.lmul) 1 124 := by decide +kernel
theorem q166_124 : qD 166 124 (.lstore_n 2) 1 125 ∧ ((2 : Fin 4) : Nat) = 2 ∧ 2 + 1 < mL 166 := by decide +kernel
theorem q166_125 : qD 166 125 (.iinc 4 1) 3 128 ∧ 4 < mL 166 ∧ Int32.ofInt (1) = (1 : Int32) := by decide +kernel
theorem q166_128 : qJ 166 128 (.goto (-66)) 131 (-66) 62 := by decide +kernel
